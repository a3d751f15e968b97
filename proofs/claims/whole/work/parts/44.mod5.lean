/-! the reference: its calls that try (written by wip/whole/c_mod5.py) -/
theorem wfM.up0 {P : Nat → Nat → Int32} {f : Nat → Int32} (h : wfM P) : wfM (va_up P 0 f) := h.of rfl rfl rfl rfl rfl rfl rfl rfl rfl rfl rfl rfl
theorem u2_k {L : Nat → Nat → Int32} {k i a : Nat} {v : Int32} (h : a ≠ k) : u2 L k i v a = L a := by
  unfold u2; rw [up_ne h rfl]
theorem wfM.uk {P : Nat → Nat → Int32} {k i : Nat} {v : Int32} (h : wfM P) (hk : (((1 ≠ k ∧ 3 ≠ k) ∧ 8 ≠ k ∧ 9 ≠ k) ∧ (10 ≠ k ∧ 34 ≠ k) ∧ 4 ≠ k ∧ 11 ≠ k) ∧ 13 ≠ k ∧ 100 ≠ k) : wfM (u2 P k i v) :=
  h.of (u2_k hk.1.1.1.1) (u2_k hk.1.1.1.2) (u2_k hk.1.1.2.1) (u2_k hk.1.1.2.2) (u2_k hk.1.2.1.1) (u2_k hk.1.2.1.2) (u2_k hk.1.2.2.1) (u2_k hk.1.2.2.2) (u2_k hk.2.1) (u2_o hk.2.2 rfl) (u2_o hk.2.2 rfl) (u2_o hk.2.2 rfl)
theorem wfM.u100 {P : Nat → Nat → Int32} {i : Nat} {v : Int32} (h : wfM P) (hi : 19 ≠ i ∧ 20 ≠ i ∧ 21 ≠ i) : wfM (u2 P 100 i v) :=
  h.of (u2_k (by decide)) (u2_k (by decide)) (u2_k (by decide)) (u2_k (by decide)) (u2_k (by decide)) (u2_k (by decide)) (u2_k (by decide)) (u2_k (by decide)) (u2_k (by decide)) (u2_i hi.1 rfl) (u2_i hi.2.1 rfl) (u2_i hi.2.2 rfl)
theorem NtM.up0 {P : Nat → Nat → Int32} {f : Nat → Int32} (h : NtM P) : NtM (va_up P 0 f) := h.of rfl rfl
theorem NtM.uk {P : Nat → Nat → Int32} {k i : Nat} {v : Int32} (h : NtM P) (hk : 14 ≠ k ∧ 100 ≠ k) : NtM (u2 P k i v) := h.of (u2_o hk.2 rfl) (u2_k hk.1)
theorem NtM.u100 {P : Nat → Nat → Int32} {i : Nat} {v : Int32} (h : NtM P) (hi : 26 ≠ i) : NtM (u2 P 100 i v) := h.of (u2_i hi rfl) (u2_k (by decide))
theorem bool_nar {x : Int32} (h : x = 0 ∨ x = 1) : narrow .boolean (.int x) = .int x := by
  rcases h with e | e <;> rw [e] <;> decide
def f_Mod_lostBy_61 (d : Nat) (n : Nat) : Nat → (Nat → Nat → Int32) → (Int32) → (Nat) → (Nat) → Int32 × (Nat → Nat → Int32)
  | 0, Z, _, _, _ => (0, Z)
  | t + 1, Z, u, k, b => if (pN Z 100 20) ≤ b then (u, Z) else if ((Z 0) ((210 + 8 * b) + 1)) = ((Z 0) ((420 + 8 * b) + 1)) then f_Mod_lostBy_61 d n t Z u k (b + 1) else f_Mod_lostBy_61 d n t Z (u ||| ((1 : Int32) <<< ((nI (b)) &&& 31))) k (b + 1)
set_option maxRecDepth 4000 in
theorem w_Mod_lostBy_61 {g : GG} {Q : QT} {h : Hp} {kc ks : Nat} (hst : (gl g).stackTraces = false) {A : Nat → Nat} (hnd : (gK (moL g A)).Nodup) (d : Nat) (n : Nat) (hd : d < 6) (hn : n < 31)  (t : Nat) : ∀ (Z : Nat → Nat → Int32) (u : Int32) (k : Nat) (b : Nat) (hw : wfM Z) (hb9 : b ≤ 10) (hlt : 10 - b < t) (hk : PW g M_Mod_lostBy 6 kc ks Q 116 [.ref (A 100), .int (nI (d)), .int (nI (n)), .int ((f_Mod_lostBy_61 d n t Z u k b).1), .int (nI (k)), .retAddr 0] [] (ov h (gO (moL g A) ((f_Mod_lostBy_61 d n t Z u k b).2)))), PW g M_Mod_lostBy 6 kc ks Q 61 [.ref (A 100), .int (nI (d)), .int (nI (n)), .int (u), .int (nI (k)), .int (nI (b))] [] (ov h (gO (moL g A) Z)) := by
  induction t with
  | zero => intro Z u k b hw hb9 hlt _; exact absurd hlt (Nat.not_lt_zero _)
  | succ t ih =>
    intro Z u k b hw hb9 hlt hk
    have hz0 := hw.blk.2
    have hz1 := hw.lnk.2
    have hz2 := hw.dvs.2
    refine pw_iload e_Mod_lostBy_61 rfl ?_
    refine pw_aload_n e_Mod_lostBy_63 rfl ?_
    refine pw_getf e_Mod_lostBy_64 fl_Mod_183 (gO_get hnd (i := 0) rfl) rfl ?_
    rw [show Z 100 20 = nI (pN Z 100 20) from hw.blk.1]
    refine pw_icmp_geN (tgt := 116) e_Mod_lostBy_67 (by decide) (by omega) (by omega) (fun (H1 : (pN Z 100 20) ≤ b) => ?_) (fun (H1 : b < (pN Z 100 20)) => ?_)
    · refine pw_fgt (ls' := [.ref (A 100), .int (nI (d)), .int (nI (n)), .int (u), .int (nI (k)), .retAddr 0]) ⟨Or.inr rfl, Or.inr rfl, Or.inr rfl, Or.inr rfl, Or.inr rfl, Or.inl rfl, trivial⟩ ?_
      rw [f_Mod_lostBy_61, if_pos H1] at hk
      exact hk
    · refine pw_aload_n e_Mod_lostBy_70 rfl ?_
      refine pw_getf e_Mod_lostBy_71 fl_Mod_9 (gO_get hnd (i := 0) rfl) rfl ?_
      refine pw_sipush (v := nI 210) e_Mod_lostBy_74 (by decide) ?_
      refine pw_iload e_Mod_lostBy_77 rfl ?_
      refine pw_detS (As := [.int (nI (210)), .int (nI (b))]) e_Mod_lostBy_79 li_Mod_193 (q_at hst 210 b) rfl (by decide) (Nat.le_of_ble_eq_true rfl) rfl ?_
      refine pw_iconst (v := nI 1) e_Mod_lostBy_82 (by decide) ?_
      refine pw_iaddN e_Mod_lostBy_83 ?_
      refine pw_ialdN e_Mod_lostBy_84 (gO_get hnd (i := 1) rfl) (by omega) (by decide) ?_
      refine pw_aload_n e_Mod_lostBy_85 rfl ?_
      refine pw_getf e_Mod_lostBy_86 fl_Mod_9 (gO_get hnd (i := 0) rfl) rfl ?_
      refine pw_sipush (v := nI 420) e_Mod_lostBy_89 (by decide) ?_
      refine pw_iload e_Mod_lostBy_92 rfl ?_
      refine pw_detS (As := [.int (nI (420)), .int (nI (b))]) e_Mod_lostBy_94 li_Mod_193 (q_at hst 420 b) rfl (by decide) (Nat.le_of_ble_eq_true rfl) rfl ?_
      refine pw_iconst (v := nI 1) e_Mod_lostBy_97 (by decide) ?_
      refine pw_iaddN e_Mod_lostBy_98 ?_
      refine pw_ialdN e_Mod_lostBy_99 (gO_get hnd (i := 1) rfl) (by omega) (by decide) ?_
      refine pw_icmp_eq (tgt := 110) e_Mod_lostBy_100 (by decide) (fun (H2 : ((Z 0) ((210 + 8 * b) + 1)) = ((Z 0) ((420 + 8 * b) + 1))) => ?_) (fun (H2 : ¬ ((Z 0) ((210 + 8 * b) + 1)) = ((Z 0) ((420 + 8 * b) + 1))) => ?_)
      · refine pw_iincN (ls2 := [_, _, _, _, _, _]) e_Mod_lostBy_110 rfl (by decide) rfl ?_
        refine pw_goto (tgt := 61) e_Mod_lostBy_113 (by decide) ?_
        refine ih Z u k (b + 1) hw (by omega) (by omega) ?_
        rw [f_Mod_lostBy_61, if_neg (Nat.not_le.mpr H1), if_pos H2] at hk
        exact hk
      · refine pw_iload_n e_Mod_lostBy_103 rfl ?_
        refine pw_iconst (v := nI 1) e_Mod_lostBy_104 (by decide) ?_
        refine pw_iload e_Mod_lostBy_105 rfl ?_
        refine pw_ishl e_Mod_lostBy_107 ?_
        refine pw_ior e_Mod_lostBy_108 ?_
        refine pw_istore_n (ls2 := [_, _, _, _, _, _]) e_Mod_lostBy_109 (by decide) rfl ?_
        refine pw_iincN (ls2 := [_, _, _, _, _, _]) e_Mod_lostBy_110 rfl (by decide) rfl ?_
        refine pw_goto (tgt := 61) e_Mod_lostBy_113 (by decide) ?_
        refine ih Z (u ||| ((1 : Int32) <<< ((nI (b)) &&& 31))) k (b + 1) hw (by omega) (by omega) ?_
        rw [f_Mod_lostBy_61, if_neg (Nat.not_le.mpr H1), if_neg H2] at hk
        exact hk
theorem z_lostBy_61 {d : Nat} {n : Nat} : ∀ (t : Nat) {Z : Nat → Nat → Int32} (u : Int32) (k : Nat) (b : Nat) (h : wfM Z), wfM (f_Mod_lostBy_61 d n t Z u k b).2 := by
  intro t
  induction t with
  | zero => intro Z u k b h; exact h
  | succ t ih =>
    intro Z u k b h
    rw [f_Mod_lostBy_61]
    repeat' split
    all_goals repeat (first | exact h | apply ih | apply wfM.up0 | refine wfM.u100 ?_ (by decide) | refine wfM.uk ?_ (by decide))
def f_Mod_lostBy_38 (d : Nat) (n : Nat) : Nat → (Nat → Nat → Int32) → (Int32) → (Nat) → Int32 × (Nat → Nat → Int32)
  | 0, Z, _, _ => (0, Z)
  | t + 1, Z, u, k => if n ≤ k then (u, Z) else f_Mod_lostBy_38 d n t ((f_Mod_lostBy_61 d n 11 (va_up (va_up Z 0 (f_Mod_cycle Z 210 (Z 0))) 0 (f_Mod_cycle (va_up Z 0 (f_Mod_cycle Z 210 (Z 0))) 420 ((va_up Z 0 (f_Mod_cycle Z 210 (Z 0))) 0))) u k 0).2) ((f_Mod_lostBy_61 d n 11 (va_up (va_up Z 0 (f_Mod_cycle Z 210 (Z 0))) 0 (f_Mod_cycle (va_up Z 0 (f_Mod_cycle Z 210 (Z 0))) 420 ((va_up Z 0 (f_Mod_cycle Z 210 (Z 0))) 0))) u k 0).1) (k + 1)
set_option maxRecDepth 4000 in
theorem w_Mod_lostBy_38 {g : GG} {Q : QT} {h : Hp} {kc ks : Nat} (hst : (gl g).stackTraces = false) {A : Nat → Nat} (hnd : (gK (moL g A)).Nodup) (d : Nat) (n : Nat) (hd : d < 6) (hn : n < 31)  (t : Nat) : ∀ (Z : Nat → Nat → Int32) (u : Int32) (k : Nat) (hw : wfM Z) (hk9 : k ≤ n) (hlt : n - k < t) (hk : Q (.inl (some (.int (f_Mod_lostBy_38 d n t Z u k).1))) (ov h (gO (moL g A) ((f_Mod_lostBy_38 d n t Z u k).2)))), PW g M_Mod_lostBy 6 kc ks Q 38 [.ref (A 100), .int (nI (d)), .int (nI (n)), .int (u), .int (nI (k)), .retAddr 0] [] (ov h (gO (moL g A) Z)) := by
  induction t with
  | zero => intro Z u k hw hk9 hlt _; exact absurd hlt (Nat.not_lt_zero _)
  | succ t ih =>
    intro Z u k hw hk9 hlt hk
    have hz0 := hw.blk.2
    have hz1 := hw.lnk.2
    have hz2 := hw.dvs.2
    refine pw_iload e_Mod_lostBy_38 rfl ?_
    refine pw_iload_n e_Mod_lostBy_40 rfl ?_
    refine pw_icmp_geN (tgt := 122) e_Mod_lostBy_41 (by decide) (by omega) (by omega) (fun (H1 : n ≤ k) => ?_) (fun (H1 : k < n) => ?_)
    · refine pw_iload_n e_Mod_lostBy_122 rfl ?_
      refine pw_iret e_Mod_lostBy_123 rfl rfl ?_
      rw [f_Mod_lostBy_38, if_pos H1] at hk
      exact hk
    · refine pw_aload_n e_Mod_lostBy_44 rfl ?_
      refine pw_sipush (v := nI 210) e_Mod_lostBy_45 (by decide) ?_
      refine pw_detV (As := [.int (nI (210))]) e_Mod_lostBy_48 li_Mod_270 rfl (gO_get hnd (i := 0) rfl) (q_Mod_cycle hst (mo_at hnd) hw 210 (by omega) (Z 0) (gO_get hnd (i := 1) rfl)) rfl (by decide) (Nat.le_of_ble_eq_true rfl) rfl ?_
      refine pw_upG (i := 1) hnd (mo_x _ _) rfl rfl ?_
      refine pw_aload_n e_Mod_lostBy_51 rfl ?_
      refine pw_sipush (v := nI 420) e_Mod_lostBy_52 (by decide) ?_
      refine pw_detV (As := [.int (nI (420))]) e_Mod_lostBy_55 li_Mod_270 rfl (gO_get hnd (i := 0) rfl) (q_Mod_cycle hst (mo_at hnd) (wfM.up0 hw) 420 (by omega) ((va_up Z 0 (f_Mod_cycle Z 210 (Z 0))) 0) (gO_get hnd (i := 1) rfl)) rfl (by decide) (Nat.le_of_ble_eq_true rfl) rfl ?_
      refine pw_upG (i := 1) hnd (mo_x _ _) rfl rfl ?_
      refine pw_iconst (v := nI 0) e_Mod_lostBy_58 (by decide) ?_
      refine pw_istore (ls2 := [_, _, _, _, _, _]) e_Mod_lostBy_59 (by decide) rfl ?_
      refine w_Mod_lostBy_61 hst hnd d n hd hn 11 (va_up (va_up Z 0 (f_Mod_cycle Z 210 (Z 0))) 0 (f_Mod_cycle (va_up Z 0 (f_Mod_cycle Z 210 (Z 0))) 420 ((va_up Z 0 (f_Mod_cycle Z 210 (Z 0))) 0))) u k 0 (wfM.up0 (wfM.up0 hw)) (by omega) (by omega) ?_
      refine pw_iincN (ls2 := [_, _, _, _, _, _]) e_Mod_lostBy_116 rfl (by decide) rfl ?_
      refine pw_goto (tgt := 38) e_Mod_lostBy_119 (by decide) ?_
      refine ih ((f_Mod_lostBy_61 d n 11 (va_up (va_up Z 0 (f_Mod_cycle Z 210 (Z 0))) 0 (f_Mod_cycle (va_up Z 0 (f_Mod_cycle Z 210 (Z 0))) 420 ((va_up Z 0 (f_Mod_cycle Z 210 (Z 0))) 0))) u k 0).2) ((f_Mod_lostBy_61 d n 11 (va_up (va_up Z 0 (f_Mod_cycle Z 210 (Z 0))) 0 (f_Mod_cycle (va_up Z 0 (f_Mod_cycle Z 210 (Z 0))) 420 ((va_up Z 0 (f_Mod_cycle Z 210 (Z 0))) 0))) u k 0).1) (k + 1) (z_lostBy_61 _ _ _ _ (wfM.up0 (wfM.up0 hw))) (by omega) (by omega) ?_
      rw [f_Mod_lostBy_38, if_neg (Nat.not_le.mpr H1)] at hk
      exact hk
def f_Mod_lostBy_33 (d : Nat) (n : Nat) (Z : Nat → Nat → Int32) : Int32 × (Nat → Nat → Int32) :=
  f_Mod_lostBy_38 d n 31 Z 0 0
set_option maxRecDepth 4000 in
theorem w_Mod_lostBy_33 {g : GG} {Q : QT} {h : Hp} {kc ks : Nat} (hst : (gl g).stackTraces = false) {A : Nat → Nat} (hnd : (gK (moL g A)).Nodup) (d : Nat) (n : Nat) (hd : d < 6) (hn : n < 31)  (Z : Nat → Nat → Int32) (hw : wfM Z) (hk : Q (.inl (some (.int (f_Mod_lostBy_33 d n Z).1))) (ov h (gO (moL g A) ((f_Mod_lostBy_33 d n Z).2)))) : PW g M_Mod_lostBy 6 kc ks Q 33 [.ref (A 100), .int (nI (d)), .int (nI (n)), .retAddr 0, .retAddr 0, .retAddr 0] [] (ov h (gO (moL g A) Z)) := by
  have hz0 := hw.blk.2
  have hz1 := hw.lnk.2
  have hz2 := hw.dvs.2
  refine pw_iconst (v := nI 0) e_Mod_lostBy_33 (by decide) ?_
  refine pw_istore_n (ls2 := [_, _, _, _, _, _]) e_Mod_lostBy_34 (by decide) rfl ?_
  refine pw_iconst (v := nI 0) e_Mod_lostBy_35 (by decide) ?_
  refine pw_istore (ls2 := [_, _, _, _, _, _]) e_Mod_lostBy_36 (by decide) rfl ?_
  refine w_Mod_lostBy_38 hst hnd d n hd hn 31 Z 0 0 hw (by omega) (by omega) ?_
  rw [f_Mod_lostBy_33] at hk
  exact hk
def f_Mod_lostBy (d : Nat) (n : Nat) (Z : Nat → Nat → Int32) : Int32 × (Nat → Nat → Int32) :=
  if (f_Mod_isOn (va_up (va_up Z 0 (f_Mod_tries Z (Z 0))) 0 (f_Mod_copies (va_up Z 0 (f_Mod_tries Z (Z 0))) 0 420 210 ((va_up Z 0 (f_Mod_tries Z (Z 0))) 0))) 0 d ((va_up (va_up Z 0 (f_Mod_tries Z (Z 0))) 0 (f_Mod_copies (va_up Z 0 (f_Mod_tries Z (Z 0))) 0 420 210 ((va_up Z 0 (f_Mod_tries Z (Z 0))) 0))) 0)) = 0 then f_Mod_lostBy_33 d n (va_up (va_up Z 0 (f_Mod_tries Z (Z 0))) 0 (f_Mod_copies (va_up Z 0 (f_Mod_tries Z (Z 0))) 0 420 210 ((va_up Z 0 (f_Mod_tries Z (Z 0))) 0))) else f_Mod_lostBy_33 d n (va_up (va_up (va_up Z 0 (f_Mod_tries Z (Z 0))) 0 (f_Mod_copies (va_up Z 0 (f_Mod_tries Z (Z 0))) 0 420 210 ((va_up Z 0 (f_Mod_tries Z (Z 0))) 0))) 0 (f_Mod_powers (va_up (va_up Z 0 (f_Mod_tries Z (Z 0))) 0 (f_Mod_copies (va_up Z 0 (f_Mod_tries Z (Z 0))) 0 420 210 ((va_up Z 0 (f_Mod_tries Z (Z 0))) 0))) 420 (nI (d)) (nI 0) ((va_up (va_up Z 0 (f_Mod_tries Z (Z 0))) 0 (f_Mod_copies (va_up Z 0 (f_Mod_tries Z (Z 0))) 0 420 210 ((va_up Z 0 (f_Mod_tries Z (Z 0))) 0))) 0)))
set_option maxRecDepth 4000 in
theorem w_Mod_lostBy_0 {g : GG} {Q : QT} {h : Hp} {kc ks : Nat} (hst : (gl g).stackTraces = false) {A : Nat → Nat} (hnd : (gK (moL g A)).Nodup) (d : Nat) (n : Nat) (hd : d < 6) (hn : n < 31)  (Z : Nat → Nat → Int32) (hw : wfM Z) (hk : Q (.inl (some (.int (f_Mod_lostBy d n Z).1))) (ov h (gO (moL g A) ((f_Mod_lostBy d n Z).2)))) : PW g M_Mod_lostBy 6 kc ks Q 0 [.ref (A 100), .int (nI (d)), .int (nI (n)), .retAddr 0, .retAddr 0, .retAddr 0] [] (ov h (gO (moL g A) Z)) := by
  have hz0 := hw.blk.2
  have hz1 := hw.lnk.2
  have hz2 := hw.dvs.2
  refine pw_aload_n e_Mod_lostBy_0 rfl ?_
  refine pw_detV (As := []) e_Mod_lostBy_1 li_Mod_429 rfl (gO_get hnd (i := 0) rfl) (q_Mod_tries hst (mo_at hnd) hw  (Z 0) (gO_get hnd (i := 1) rfl)) rfl (by decide) (Nat.le_of_ble_eq_true rfl) rfl ?_
  refine pw_upG (i := 1) hnd (mo_x _ _) rfl rfl ?_
  refine pw_aload_n e_Mod_lostBy_4 rfl ?_
  refine pw_iconst (v := nI 0) e_Mod_lostBy_5 (by decide) ?_
  refine pw_sipush (v := nI 420) e_Mod_lostBy_6 (by decide) ?_
  refine pw_sipush (v := nI 210) e_Mod_lostBy_9 (by decide) ?_
  refine pw_detV (As := [.int (nI (0)), .int (nI (420)), .int (nI (210))]) e_Mod_lostBy_12 li_Mod_406 rfl (gO_get hnd (i := 0) rfl) (q_Mod_copies hst (mo_at hnd) (wfM.up0 hw) 0 420 210 (by omega) (by omega) ((va_up Z 0 (f_Mod_tries Z (Z 0))) 0) (gO_get hnd (i := 1) rfl)) rfl (by decide) (Nat.le_of_ble_eq_true rfl) rfl ?_
  refine pw_upG (i := 1) hnd (mo_x _ _) rfl rfl ?_
  refine pw_aload_n e_Mod_lostBy_15 rfl ?_
  refine pw_iconst (v := nI 0) e_Mod_lostBy_16 (by decide) ?_
  refine pw_iload_n e_Mod_lostBy_17 rfl ?_
  refine pw_detV (As := [.int (nI (0)), .int (nI (d))]) e_Mod_lostBy_18 li_Mod_205 rfl (gO_get hnd (i := 0) rfl) (q_Mod_isOn hst (mo_at hnd) (wfM.up0 (wfM.up0 hw)) 0 d (by omega) ((va_up (va_up Z 0 (f_Mod_tries Z (Z 0))) 0 (f_Mod_copies (va_up Z 0 (f_Mod_tries Z (Z 0))) 0 420 210 ((va_up Z 0 (f_Mod_tries Z (Z 0))) 0))) 0) (gO_get hnd (i := 1) rfl)) rfl (by decide) (Nat.le_of_ble_eq_true rfl) rfl ?_
  refine pw_if_eq (tgt := 33) e_Mod_lostBy_21 (by decide) (fun (H1 : (f_Mod_isOn (va_up (va_up Z 0 (f_Mod_tries Z (Z 0))) 0 (f_Mod_copies (va_up Z 0 (f_Mod_tries Z (Z 0))) 0 420 210 ((va_up Z 0 (f_Mod_tries Z (Z 0))) 0))) 0 d ((va_up (va_up Z 0 (f_Mod_tries Z (Z 0))) 0 (f_Mod_copies (va_up Z 0 (f_Mod_tries Z (Z 0))) 0 420 210 ((va_up Z 0 (f_Mod_tries Z (Z 0))) 0))) 0)) = 0) => ?_) (fun (H1 : ¬ (f_Mod_isOn (va_up (va_up Z 0 (f_Mod_tries Z (Z 0))) 0 (f_Mod_copies (va_up Z 0 (f_Mod_tries Z (Z 0))) 0 420 210 ((va_up Z 0 (f_Mod_tries Z (Z 0))) 0))) 0 d ((va_up (va_up Z 0 (f_Mod_tries Z (Z 0))) 0 (f_Mod_copies (va_up Z 0 (f_Mod_tries Z (Z 0))) 0 420 210 ((va_up Z 0 (f_Mod_tries Z (Z 0))) 0))) 0)) = 0) => ?_)
  · refine w_Mod_lostBy_33 hst hnd d n hd hn (va_up (va_up Z 0 (f_Mod_tries Z (Z 0))) 0 (f_Mod_copies (va_up Z 0 (f_Mod_tries Z (Z 0))) 0 420 210 ((va_up Z 0 (f_Mod_tries Z (Z 0))) 0))) (wfM.up0 (wfM.up0 hw)) ?_
    rw [f_Mod_lostBy, if_pos H1] at hk
    exact hk
  · refine pw_aload_n e_Mod_lostBy_24 rfl ?_
    refine pw_sipush (v := nI 420) e_Mod_lostBy_25 (by decide) ?_
    refine pw_iload_n e_Mod_lostBy_28 rfl ?_
    refine pw_iconst (v := nI 0) e_Mod_lostBy_29 (by decide) ?_
    refine pw_detV (As := [.int (nI (420)), .int (nI (d)), .int (nI (0))]) e_Mod_lostBy_30 li_Mod_422 rfl (gO_get hnd (i := 0) rfl) (q_Mod_powers hst (mo_at hnd) (wfM.up0 (wfM.up0 hw)) 420 (nI (d)) (nI 0) (by omega) ((va_up (va_up Z 0 (f_Mod_tries Z (Z 0))) 0 (f_Mod_copies (va_up Z 0 (f_Mod_tries Z (Z 0))) 0 420 210 ((va_up Z 0 (f_Mod_tries Z (Z 0))) 0))) 0) (gO_get hnd (i := 1) rfl)) rfl (by decide) (Nat.le_of_ble_eq_true rfl) rfl ?_
    refine pw_upG (i := 1) hnd (mo_x _ _) rfl rfl ?_
    refine w_Mod_lostBy_33 hst hnd d n hd hn (va_up (va_up (va_up Z 0 (f_Mod_tries Z (Z 0))) 0 (f_Mod_copies (va_up Z 0 (f_Mod_tries Z (Z 0))) 0 420 210 ((va_up Z 0 (f_Mod_tries Z (Z 0))) 0))) 0 (f_Mod_powers (va_up (va_up Z 0 (f_Mod_tries Z (Z 0))) 0 (f_Mod_copies (va_up Z 0 (f_Mod_tries Z (Z 0))) 0 420 210 ((va_up Z 0 (f_Mod_tries Z (Z 0))) 0))) 420 (nI (d)) (nI 0) ((va_up (va_up Z 0 (f_Mod_tries Z (Z 0))) 0 (f_Mod_copies (va_up Z 0 (f_Mod_tries Z (Z 0))) 0 420 210 ((va_up Z 0 (f_Mod_tries Z (Z 0))) 0))) 0))) (wfM.up0 (wfM.up0 (wfM.up0 hw))) ?_
    rw [f_Mod_lostBy, if_neg H1] at hk
    exact hk
theorem q_Mod_lostBy {g : GG} {h : Hp} (hst : (gl g).stackTraces = false) {A : Nat → Nat} (hnd : (gK (moL g A)).Nodup) (d : Nat) (n : Nat) (hd : d < 6) (hn : n < 31)  (Z : Nat → Nat → Int32) (hm : ∀ q ∈ gO (moL g A) Z, h q.1 = some q.2) (hw : wfM Z) : PM g M_Mod_lostBy 6 0 0 [.ref (A 100), .int (nI (d)), .int (nI (n))] h (RetV (some (.int (f_Mod_lostBy d n Z).1)) (ov h (gO (moL g A) ((f_Mod_lostBy d n Z).2)))) := by
  refine PM.of hst (by decide) rfl (fun v hv => ?_) (Nat.le_of_ble_eq_true rfl) ?_
  · simp only [List.mem_cons, List.not_mem_nil, or_false] at hv; rcases hv with rfl | rfl | rfl <;> rfl
  · have hq := w_Mod_lostBy_0 (g := g) (Q := RetV (some (.int (f_Mod_lostBy d n Z).1)) (ov h (gO (moL g A) ((f_Mod_lostBy d n Z).2)))) (h := h) (kc := 0) (ks := 0) hst hnd d n hd hn Z hw ?_
    · rw [ov_self hm] at hq; exact hq
    · exact ⟨rfl, rfl⟩

theorem z_lostBy_38 {d : Nat} {n : Nat} : ∀ (t : Nat) {Z : Nat → Nat → Int32} (u : Int32) (k : Nat) (h : wfM Z), wfM (f_Mod_lostBy_38 d n t Z u k).2 := by
  intro t
  induction t with
  | zero => intro Z u k h; exact h
  | succ t ih =>
    intro Z u k h
    rw [f_Mod_lostBy_38]
    repeat' split
    all_goals repeat (first | exact h | apply ih | apply z_lostBy_61 | apply wfM.up0 | refine wfM.u100 ?_ (by decide) | refine wfM.uk ?_ (by decide))
theorem z_lostBy {d : Nat} {n : Nat} {Z : Nat → Nat → Int32} (h : wfM Z) : wfM (f_Mod_lostBy d n Z).2 := by
  rw [f_Mod_lostBy]
  split
  all_goals (rw [f_Mod_lostBy_33]; apply z_lostBy_38; repeat (first | exact h | apply wfM.up0))
theorem k_lostBy_61 {d n : Nat} : ∀ (t : Nat) (Z : Nat → Nat → Int32) (u : Int32) (k b : Nat), (f_Mod_lostBy_61 d n t Z u k b).2 = Z := by
  intro t
  induction t with
  | zero => intro Z u k b; rfl
  | succ t ih =>
    intro Z u k b
    rw [f_Mod_lostBy_61]
    repeat' split
    all_goals first | rfl | exact ih _ _ _ _
def f_Mod_lost_41 (x : Int32) (y : Int32) (Z : Nat → Nat → Int32) (d : Nat) (n : Nat) : Int32 × (Nat → Nat → Int32) :=
  ((f_Mod_lostBy d n Z).1, (f_Mod_lostBy d n Z).2)
set_option maxRecDepth 4000 in
theorem w_Mod_lost_41 {g : GG} {Q : QT} {h : Hp} {kc ks : Nat} (hst : (gl g).stackTraces = false) {A : Nat → Nat} (hnd : (gK (moL g A)).Nodup) (x : Int32) (y : Int32)  (Z : Nat → Nat → Int32) (d : Nat) (n : Nat) (hw : wfM Z) (hd : d < 6) (hn : n < 31) (hk : Q (.inl (some (.int (f_Mod_lost_41 x y Z d n).1))) (ov h (gO (moL g A) ((f_Mod_lost_41 x y Z d n).2)))) : PW g M_Mod_lost 7 kc ks Q 41 [.ref (A 100), .int (nI (d)), .int (nI (n))] [] (ov h (gO (moL g A) Z)) := by
  have hz0 := hw.blk.2
  have hz1 := hw.lnk.2
  have hz2 := hw.dvs.2
  refine pw_aload_n e_Mod_lost_41 rfl ?_
  refine pw_iload_n e_Mod_lost_42 rfl ?_
  refine pw_iload_n e_Mod_lost_43 rfl ?_
  refine pw_detV (As := [.int (nI (d)), .int (nI (n))]) e_Mod_lost_44 li_Mod_435 rfl (gO_get hnd (i := 0) rfl) (q_Mod_lostBy hst hnd d n (by omega) (by omega) Z (gO_in hnd (fun _ z => z)) hw) rfl (by decide) (Nat.le_of_ble_eq_true rfl) rfl ?_
  refine pw_sameG hnd ?_
  refine pw_iret e_Mod_lost_47 rfl rfl ?_
  rw [f_Mod_lost_41] at hk
  exact hk
def f_Mod_lost (x : Int32) (y : Int32) (Z : Nat → Nat → Int32) : Int32 × (Nat → Nat → Int32) :=
  if ((f_Mod_right (f_Mod_within x (nI 0) ((nI (pN Z 100 19)) - 1)) (nI 1) (u2 Z 100 18 0)).1) = 0 then (0, (f_Mod_right (f_Mod_within x (nI 0) ((nI (pN Z 100 19)) - 1)) (nI 1) (u2 Z 100 18 0)).2) else if ((f_Mod_right (f_Mod_within y (nI 1) (nI 30)) (nI 2) ((f_Mod_right (f_Mod_within x (nI 0) ((nI (pN Z 100 19)) - 1)) (nI 1) (u2 Z 100 18 0)).2)).1) = 0 then (0, (f_Mod_right (f_Mod_within y (nI 1) (nI 30)) (nI 2) ((f_Mod_right (f_Mod_within x (nI 0) ((nI (pN Z 100 19)) - 1)) (nI 1) (u2 Z 100 18 0)).2)).2) else f_Mod_lost_41 x y ((f_Mod_right (f_Mod_within y (nI 1) (nI 30)) (nI 2) ((f_Mod_right (f_Mod_within x (nI 0) ((nI (pN Z 100 19)) - 1)) (nI 1) (u2 Z 100 18 0)).2)).2) x.toNatClampNeg y.toNatClampNeg
set_option maxRecDepth 4000 in
theorem w_Mod_lost_0 {g : GG} {Q : QT} {h : Hp} {kc ks : Nat} (hst : (gl g).stackTraces = false) {A : Nat → Nat} (hnd : (gK (moL g A)).Nodup) (x : Int32) (y : Int32)  (Z : Nat → Nat → Int32) (hw : wfM Z) (hk : Q (.inl (some (.int (f_Mod_lost x y Z).1))) (ov h (gO (moL g A) ((f_Mod_lost x y Z).2)))) : PW g M_Mod_lost 7 kc ks Q 0 [.ref (A 100), .int (x), .int (y)] [] (ov h (gO (moL g A) Z)) := by
  have hz0 := hw.blk.2
  have hz1 := hw.lnk.2
  have hz2 := hw.dvs.2
  refine pw_aload_n e_Mod_lost_0 rfl ?_
  refine pw_iconst (v := nI 0) e_Mod_lost_1 (by decide) ?_
  refine pw_putGi (i := 0) (ps := 18) (x := 0) e_Mod_lost_2 fp_Mod_159 hnd (mo_x _ _) rfl (Nat.le_of_ble_eq_true rfl) rfl rfl (fun _ _ => rfl) ?_
  refine pw_aload_n e_Mod_lost_5 rfl ?_
  refine pw_iload_n e_Mod_lost_6 rfl ?_
  refine pw_iconst (v := nI 0) e_Mod_lost_7 (by decide) ?_
  refine pw_aload_n e_Mod_lost_8 rfl ?_
  refine pw_getf e_Mod_lost_9 fl_Mod_64 (gO_get hnd (i := 0) rfl) rfl ?_
  rw [show (u2 Z 100 18 0) 100 19 = nI (pN Z 100 19) from hw.dvs.1]
  refine pw_iconst (v := nI 1) e_Mod_lost_12 (by decide) ?_
  refine pw_isub e_Mod_lost_13 ?_
  refine pw_detS (As := [.int (x), .int (nI (0)), .int ((nI (pN Z 100 19)) - 1)]) e_Mod_lost_14 li_Mod_312 (q_Mod_within hst x (nI 0) ((nI (pN Z 100 19)) - 1)) rfl (by decide) (Nat.le_of_ble_eq_true rfl) rfl ?_
  refine pw_iconst (v := nI 1) e_Mod_lost_17 (by decide) ?_
  refine pw_detV (As := [.int (f_Mod_within x (nI 0) ((nI (pN Z 100 19)) - 1)), .int (nI (1))]) e_Mod_lost_18 li_Mod_372 rfl (gO_get hnd (i := 0) rfl) (q_Mod_right hst hnd (f_Mod_within x (nI 0) ((nI (pN Z 100 19)) - 1)) (nI 1) (u2 Z 100 18 0) (gO_in hnd (fun _ z => z))) rfl (by decide) (Nat.le_of_ble_eq_true rfl) rfl ?_
  refine pw_sameG hnd ?_
  refine pw_if_eq (tgt := 39) e_Mod_lost_21 (by decide) (fun (H1 : ((f_Mod_right (f_Mod_within x (nI 0) ((nI (pN Z 100 19)) - 1)) (nI 1) (u2 Z 100 18 0)).1) = 0) => ?_) (fun (H1 : ¬ ((f_Mod_right (f_Mod_within x (nI 0) ((nI (pN Z 100 19)) - 1)) (nI 1) (u2 Z 100 18 0)).1) = 0) => ?_)
  · refine pw_iconst (v := nI 0) e_Mod_lost_39 (by decide) ?_
    refine pw_iret e_Mod_lost_40 rfl rfl ?_
    rw [f_Mod_lost, if_pos H1] at hk
    exact hk
  · refine pw_aload_n e_Mod_lost_24 rfl ?_
    refine pw_iload_n e_Mod_lost_25 rfl ?_
    refine pw_iconst (v := nI 1) e_Mod_lost_26 (by decide) ?_
    refine pw_bipush (v := nI 30) e_Mod_lost_27 (by decide) ?_
    refine pw_detS (As := [.int (y), .int (nI (1)), .int (nI (30))]) e_Mod_lost_29 li_Mod_312 (q_Mod_within hst y (nI 1) (nI 30)) rfl (by decide) (Nat.le_of_ble_eq_true rfl) rfl ?_
    refine pw_iconst (v := nI 2) e_Mod_lost_32 (by decide) ?_
    refine pw_detV (As := [.int (f_Mod_within y (nI 1) (nI 30)), .int (nI (2))]) e_Mod_lost_33 li_Mod_372 rfl (gO_get hnd (i := 0) rfl) (q_Mod_right hst hnd (f_Mod_within y (nI 1) (nI 30)) (nI 2) ((f_Mod_right (f_Mod_within x (nI 0) ((nI (pN Z 100 19)) - 1)) (nI 1) (u2 Z 100 18 0)).2) (gO_in hnd (fun _ z => z))) rfl (by decide) (Nat.le_of_ble_eq_true rfl) rfl ?_
    refine pw_sameG hnd ?_
    refine pw_if_ne (tgt := 41) e_Mod_lost_36 (by decide) (fun (H2 : ¬ ((f_Mod_right (f_Mod_within y (nI 1) (nI 30)) (nI 2) ((f_Mod_right (f_Mod_within x (nI 0) ((nI (pN Z 100 19)) - 1)) (nI 1) (u2 Z 100 18 0)).2)).1) = 0) => ?_) (fun (H2 : ((f_Mod_right (f_Mod_within y (nI 1) (nI 30)) (nI 2) ((f_Mod_right (f_Mod_within x (nI 0) ((nI (pN Z 100 19)) - 1)) (nI 1) (u2 Z 100 18 0)).2)).1) = 0) => ?_)
    · refine pw_eqls (ls' := [.ref (A 100), .int (nI (x.toNatClampNeg)), .int (y)]) (by rw [← (show x = nI (x.toNatClampNeg) from (wi_of (by omega) (rt_of (by decide) H1).1).1)]) ?_
      refine pw_eqls (ls' := [.ref (A 100), .int (nI (x.toNatClampNeg)), .int (nI (y.toNatClampNeg))]) (by rw [← (show y = nI (y.toNatClampNeg) from (win_M1 (n := 30) (by decide) (rt_of (by decide) H2).1).1)]) ?_
      refine w_Mod_lost_41 hst hnd x y ((f_Mod_right (f_Mod_within y (nI 1) (nI 30)) (nI 2) ((f_Mod_right (f_Mod_within x (nI 0) ((nI (pN Z 100 19)) - 1)) (nI 1) (u2 Z 100 18 0)).2)).2) x.toNatClampNeg y.toNatClampNeg (z_right (z_right (wfM.u100 (i := 18) hw (by decide)))) (by have := (wi_of (by omega) (rt_of (by decide) H1).1).2; omega) (win_M1 (n := 30) (by decide) (rt_of (by decide) H2).1).2.2 ?_
      rw [f_Mod_lost, if_neg H1, if_neg H2] at hk
      exact hk
    · refine pw_iconst (v := nI 0) e_Mod_lost_39 (by decide) ?_
      refine pw_iret e_Mod_lost_40 rfl rfl ?_
      rw [f_Mod_lost, if_neg H1, if_pos H2] at hk
      exact hk
theorem q_Mod_lost {g : GG} {h : Hp} (hst : (gl g).stackTraces = false) {A : Nat → Nat} (hnd : (gK (moL g A)).Nodup) (x : Int32) (y : Int32)  (Z : Nat → Nat → Int32) (hm : ∀ q ∈ gO (moL g A) Z, h q.1 = some q.2) (hw : wfM Z) : PM g M_Mod_lost 7 0 0 [.ref (A 100), .int (x), .int (y)] h (RetV (some (.int (f_Mod_lost x y Z).1)) (ov h (gO (moL g A) ((f_Mod_lost x y Z).2)))) := by
  refine PM.of hst (by decide) rfl (fun v hv => ?_) (Nat.le_of_ble_eq_true rfl) ?_
  · simp only [List.mem_cons, List.not_mem_nil, or_false] at hv; rcases hv with rfl | rfl | rfl <;> rfl
  · have hq := w_Mod_lost_0 (g := g) (Q := RetV (some (.int (f_Mod_lost x y Z).1)) (ov h (gO (moL g A) ((f_Mod_lost x y Z).2)))) (h := h) (kc := 0) (ks := 0) hst hnd x y Z hw ?_
    · rw [ov_self hm] at hq; exact hq
    · exact ⟨rfl, rfl⟩

def f_Mod_ownOf_4 (d : Nat) : Nat → (Nat → Nat → Int32) → (Int32) → (Nat) → Int32
  | 0, _, _, _ => 0
  | t + 1, Z, u, b => if (pN Z 100 20) ≤ b then u else if (pN Z 1 b) = d then f_Mod_ownOf_4 d t Z (u ||| ((1 : Int32) <<< ((nI (b)) &&& 31))) (b + 1) else f_Mod_ownOf_4 d t Z (u ||| 0) (b + 1)
set_option maxRecDepth 4000 in
theorem w_Mod_ownOf_4 {g : GG} {Q : QT} {h : Hp} {kc ks : Nat} (hst : (gl g).stackTraces = false) {A : Nat → Nat} (hnd : (gK (moL g A)).Nodup) (d : Nat) (hd : d < 6)  (t : Nat) : ∀ (Z : Nat → Nat → Int32) (u : Int32) (b : Nat) (hw : wfM Z) (hb9 : b ≤ 10) (hlt : 10 - b < t) (hk : Q (.inl (some (.int (f_Mod_ownOf_4 d t Z u b)))) (ov h (gO (moL g A) Z))), PW g M_Mod_ownOf 0 kc ks Q 4 [.ref (A 100), .int (nI (d)), .int (u), .int (nI (b))] [] (ov h (gO (moL g A) Z)) := by
  induction t with
  | zero => intro Z u b hw hb9 hlt _; exact absurd hlt (Nat.not_lt_zero _)
  | succ t ih =>
    intro Z u b hw hb9 hlt hk
    have hz0 := hw.blk.2
    have hz1 := hw.lnk.2
    have hz2 := hw.dvs.2
    refine pw_iload_n e_Mod_ownOf_4 rfl ?_
    refine pw_aload_n e_Mod_ownOf_5 rfl ?_
    refine pw_getf e_Mod_ownOf_6 fl_Mod_183 (gO_get hnd (i := 0) rfl) rfl ?_
    rw [show Z 100 20 = nI (pN Z 100 20) from hw.blk.1]
    refine pw_icmp_geN (tgt := 38) e_Mod_ownOf_9 (by decide) (by omega) (by omega) (fun (H1 : (pN Z 100 20) ≤ b) => ?_) (fun (H1 : b < (pN Z 100 20)) => ?_)
    · refine pw_iload_n e_Mod_ownOf_38 rfl ?_
      refine pw_iret e_Mod_ownOf_39 rfl rfl ?_
      rw [f_Mod_ownOf_4, if_pos H1] at hk
      exact hk
    · refine pw_iload_n e_Mod_ownOf_12 rfl ?_
      refine pw_aload_n e_Mod_ownOf_13 rfl ?_
      refine pw_getf e_Mod_ownOf_14 fl_Mod_13 (gO_get hnd (i := 0) rfl) rfl ?_
      refine pw_iload_n e_Mod_ownOf_17 rfl ?_
      have hb2 := hw.dev b
      refine pw_ialdC e_Mod_ownOf_18 (gO_get hnd (i := 2) rfl) (by omega) (by decide) hb2.1 ?_
      replace hb2 := hb2.2
      refine pw_iload_n e_Mod_ownOf_19 rfl ?_
      refine pw_icmp_neN (tgt := 29) e_Mod_ownOf_20 (by decide) (by omega) (by omega) (fun (H3 : ¬ (pN Z 1 b) = d) => ?_) (fun (H3 : (pN Z 1 b) = d) => ?_)
      · refine pw_iconst (v := nI 0) e_Mod_ownOf_29 (by decide) ?_
        refine pw_ior e_Mod_ownOf_30 ?_
        refine pw_istore_n (ls2 := [_, _, _, _]) e_Mod_ownOf_31 (by decide) rfl ?_
        refine pw_iincN (ls2 := [_, _, _, _]) e_Mod_ownOf_32 rfl (by decide) rfl ?_
        refine pw_goto (tgt := 4) e_Mod_ownOf_35 (by decide) ?_
        refine ih Z (u ||| 0) (b + 1) hw (by omega) (by omega) ?_
        rw [f_Mod_ownOf_4, if_neg (Nat.not_le.mpr H1), if_neg H3] at hk
        exact hk
      · refine pw_iconst (v := nI 1) e_Mod_ownOf_23 (by decide) ?_
        refine pw_iload_n e_Mod_ownOf_24 rfl ?_
        refine pw_ishl e_Mod_ownOf_25 ?_
        refine pw_goto (tgt := 30) e_Mod_ownOf_26 (by decide) ?_
        refine pw_ior e_Mod_ownOf_30 ?_
        refine pw_istore_n (ls2 := [_, _, _, _]) e_Mod_ownOf_31 (by decide) rfl ?_
        refine pw_iincN (ls2 := [_, _, _, _]) e_Mod_ownOf_32 rfl (by decide) rfl ?_
        refine pw_goto (tgt := 4) e_Mod_ownOf_35 (by decide) ?_
        refine ih Z (u ||| ((1 : Int32) <<< ((nI (b)) &&& 31))) (b + 1) hw (by omega) (by omega) ?_
        rw [f_Mod_ownOf_4, if_neg (Nat.not_le.mpr H1), if_pos H3] at hk
        exact hk
def f_Mod_ownOf (d : Nat) (Z : Nat → Nat → Int32) : Int32 :=
  f_Mod_ownOf_4 d 11 Z 0 0
set_option maxRecDepth 4000 in
theorem w_Mod_ownOf_0 {g : GG} {Q : QT} {h : Hp} {kc ks : Nat} (hst : (gl g).stackTraces = false) {A : Nat → Nat} (hnd : (gK (moL g A)).Nodup) (d : Nat) (hd : d < 6)  (Z : Nat → Nat → Int32) (hw : wfM Z) (hk : Q (.inl (some (.int (f_Mod_ownOf d Z)))) (ov h (gO (moL g A) Z))) : PW g M_Mod_ownOf 0 kc ks Q 0 [.ref (A 100), .int (nI (d)), .retAddr 0, .retAddr 0] [] (ov h (gO (moL g A) Z)) := by
  have hz0 := hw.blk.2
  have hz1 := hw.lnk.2
  have hz2 := hw.dvs.2
  refine pw_iconst (v := nI 0) e_Mod_ownOf_0 (by decide) ?_
  refine pw_istore_n (ls2 := [_, _, _, _]) e_Mod_ownOf_1 (by decide) rfl ?_
  refine pw_iconst (v := nI 0) e_Mod_ownOf_2 (by decide) ?_
  refine pw_istore_n (ls2 := [_, _, _, _]) e_Mod_ownOf_3 (by decide) rfl ?_
  refine w_Mod_ownOf_4 hst hnd d hd 11 Z 0 0 hw (by omega) (by omega) ?_
  rw [f_Mod_ownOf] at hk
  exact hk
theorem q_Mod_ownOf {g : GG} {h : Hp} (hst : (gl g).stackTraces = false) {A : Nat → Nat} (hnd : (gK (moL g A)).Nodup) (d : Nat) (hd : d < 6)  (Z : Nat → Nat → Int32) (hm : ∀ q ∈ gO (moL g A) Z, h q.1 = some q.2) (hw : wfM Z) : PM g M_Mod_ownOf 0 0 0 [.ref (A 100), .int (nI (d))] h (RetV (some (.int (f_Mod_ownOf d Z))) h) := by
  refine PM.of hst (by decide) rfl (fun v hv => ?_) (Nat.le_of_ble_eq_true rfl) ?_
  · simp only [List.mem_cons, List.not_mem_nil, or_false] at hv; rcases hv with rfl | rfl <;> rfl
  · have hq := w_Mod_ownOf_0 (g := g) (Q := RetV (some (.int (f_Mod_ownOf d Z))) h) (h := h) (kc := 0) (ks := 0) hst hnd d hd Z hw ?_
    · rw [ov_self hm] at hq; exact hq
    · exact ⟨rfl, ov_self hm⟩

def f_Mod_toRide_31  : Nat → (Nat → Nat → Int32) → (Nat) → (Int32) → (Int32) → (Nat) → Int32 × (Nat → Nat → Int32)
  | 0, Z, _, _, _, _ => (0, Z)
  | t + 1, Z, d, had, it, v => if 9 < v then (it, u2 Z 100 22 had) else if it = ((-1)) then if (((f_Mod_lostBy d 20 (u2 Z 100 22 (nI (v)))).1) &&& ((f_Mod_ownOf d ((f_Mod_lostBy d 20 (u2 Z 100 22 (nI (v)))).2)) ^^^ ((-1)))) = 0 then f_Mod_toRide_31  t ((f_Mod_lostBy d 20 (u2 Z 100 22 (nI (v)))).2) d had (nI (v)) (v + 1) else f_Mod_toRide_31  t ((f_Mod_lostBy d 20 (u2 Z 100 22 (nI (v)))).2) d had it (v + 1) else (it, u2 Z 100 22 had)
set_option maxRecDepth 4000 in
theorem w_Mod_toRide_31 {g : GG} {Q : QT} {h : Hp} {kc ks : Nat} (hst : (gl g).stackTraces = false) {A : Nat → Nat} (hnd : (gK (moL g A)).Nodup)  (t : Nat) : ∀ (Z : Nat → Nat → Int32) (d : Nat) (had : Int32) (it : Int32) (v : Nat) (hw : wfM Z) (hd : d < 5) (hv : 1 ≤ v ∧ v ≤ 10) (hlt : 10 - v < t) (hk : Q (.inl (some (.int (f_Mod_toRide_31  t Z d had it v).1))) (ov h (gO (moL g A) ((f_Mod_toRide_31  t Z d had it v).2)))), PW g M_Mod_toRide 7 kc ks Q 31 [.ref (A 100), .int (nI (d)), .int (had), .int (it), .int (nI (v))] [] (ov h (gO (moL g A) Z)) := by
  induction t with
  | zero => intro Z d had it v hw hd hv hlt _; exact absurd hlt (Nat.not_lt_zero _)
  | succ t ih =>
    intro Z d had it v hw hd hv hlt hk
    have hz0 := hw.blk.2
    have hz1 := hw.lnk.2
    have hz2 := hw.dvs.2
    refine pw_iload e_Mod_toRide_31 rfl ?_
    refine pw_bipush (v := nI 9) e_Mod_toRide_33 (by decide) ?_
    refine pw_icmp_gtN (tgt := 76) e_Mod_toRide_35 (by decide) (by omega) (by omega) (fun (H1 : 9 < v) => ?_) (fun (H1 : v ≤ 9) => ?_)
    · refine pw_aload_n e_Mod_toRide_76 rfl ?_
      refine pw_iload_n e_Mod_toRide_77 rfl ?_
      refine pw_putGi (i := 0) (ps := 22) (x := had) e_Mod_toRide_78 fp_Mod_68 hnd (mo_x _ _) rfl (Nat.le_of_ble_eq_true rfl) rfl rfl (fun _ _ => rfl) ?_
      refine pw_iload_n e_Mod_toRide_81 rfl ?_
      refine pw_iret e_Mod_toRide_82 rfl rfl ?_
      rw [f_Mod_toRide_31, if_pos H1] at hk
      exact hk
    · refine pw_iload_n e_Mod_toRide_38 rfl ?_
      refine pw_iconst (v := (-1)) e_Mod_toRide_39 (by decide) ?_
      refine pw_icmp_ne (tgt := 76) e_Mod_toRide_40 (by decide) (fun (H2 : ¬ it = ((-1))) => ?_) (fun (H2 : it = ((-1))) => ?_)
      · refine pw_aload_n e_Mod_toRide_76 rfl ?_
        refine pw_iload_n e_Mod_toRide_77 rfl ?_
        refine pw_putGi (i := 0) (ps := 22) (x := had) e_Mod_toRide_78 fp_Mod_68 hnd (mo_x _ _) rfl (Nat.le_of_ble_eq_true rfl) rfl rfl (fun _ _ => rfl) ?_
        refine pw_iload_n e_Mod_toRide_81 rfl ?_
        refine pw_iret e_Mod_toRide_82 rfl rfl ?_
        rw [f_Mod_toRide_31, if_neg (Nat.not_lt.mpr H1), if_neg H2] at hk
        exact hk
      · refine pw_aload_n e_Mod_toRide_43 rfl ?_
        refine pw_iload e_Mod_toRide_44 rfl ?_
        refine pw_putGi (i := 0) (ps := 22) (x := nI (v)) e_Mod_toRide_46 fp_Mod_68 hnd (mo_x _ _) rfl (Nat.le_of_ble_eq_true rfl) rfl rfl (fun _ _ => rfl) ?_
        refine pw_aload_n e_Mod_toRide_49 rfl ?_
        refine pw_iload_n e_Mod_toRide_50 rfl ?_
        refine pw_bipush (v := nI 20) e_Mod_toRide_51 (by decide) ?_
        refine pw_detV (As := [.int (nI (d)), .int (nI (20))]) e_Mod_toRide_53 li_Mod_435 rfl (gO_get hnd (i := 0) rfl) (q_Mod_lostBy hst hnd d 20 (by omega) (by omega) (u2 Z 100 22 (nI (v))) (gO_in hnd (fun _ z => z)) (wfM.u100 (i := 22) hw (by decide))) rfl (by decide) (Nat.le_of_ble_eq_true rfl) rfl ?_
        refine pw_sameG hnd ?_
        refine pw_aload_n e_Mod_toRide_56 rfl ?_
        refine pw_iload_n e_Mod_toRide_57 rfl ?_
        refine pw_detV (As := [.int (nI (d))]) e_Mod_toRide_58 li_Mod_438 rfl (gO_get hnd (i := 0) rfl) (q_Mod_ownOf hst hnd d (by omega) ((f_Mod_lostBy d 20 (u2 Z 100 22 (nI (v)))).2) (gO_in hnd (fun _ z => z)) (z_lostBy (wfM.u100 (i := 22) hw (by decide)))) rfl (by decide) (Nat.le_of_ble_eq_true rfl) rfl ?_
        refine pw_iconst (v := (-1)) e_Mod_toRide_61 (by decide) ?_
        refine pw_ixor e_Mod_toRide_62 ?_
        refine pw_iand e_Mod_toRide_63 ?_
        refine pw_if_ne (tgt := 70) e_Mod_toRide_64 (by decide) (fun (H3 : ¬ (((f_Mod_lostBy d 20 (u2 Z 100 22 (nI (v)))).1) &&& ((f_Mod_ownOf d ((f_Mod_lostBy d 20 (u2 Z 100 22 (nI (v)))).2)) ^^^ ((-1)))) = 0) => ?_) (fun (H3 : (((f_Mod_lostBy d 20 (u2 Z 100 22 (nI (v)))).1) &&& ((f_Mod_ownOf d ((f_Mod_lostBy d 20 (u2 Z 100 22 (nI (v)))).2)) ^^^ ((-1)))) = 0) => ?_)
        · refine pw_iincN (ls2 := [_, _, _, _, _]) e_Mod_toRide_70 rfl (by decide) rfl ?_
          refine pw_goto (tgt := 31) e_Mod_toRide_73 (by decide) ?_
          refine ih ((f_Mod_lostBy d 20 (u2 Z 100 22 (nI (v)))).2) d had it (v + 1) (z_lostBy (wfM.u100 (i := 22) hw (by decide))) (by omega) (by omega) (by omega) ?_
          rw [f_Mod_toRide_31, if_neg (Nat.not_lt.mpr H1), if_pos H2, if_neg H3] at hk
          exact hk
        · refine pw_iload e_Mod_toRide_67 rfl ?_
          refine pw_istore_n (ls2 := [_, _, _, _, _]) e_Mod_toRide_69 (by decide) rfl ?_
          refine pw_iincN (ls2 := [_, _, _, _, _]) e_Mod_toRide_70 rfl (by decide) rfl ?_
          refine pw_goto (tgt := 31) e_Mod_toRide_73 (by decide) ?_
          refine ih ((f_Mod_lostBy d 20 (u2 Z 100 22 (nI (v)))).2) d had (nI (v)) (v + 1) (z_lostBy (wfM.u100 (i := 22) hw (by decide))) (by omega) (by omega) (by omega) ?_
          rw [f_Mod_toRide_31, if_neg (Nat.not_lt.mpr H1), if_pos H2, if_pos H3] at hk
          exact hk
def f_Mod_toRide_21  (Z : Nat → Nat → Int32) (d : Nat) : Int32 × (Nat → Nat → Int32) :=
  f_Mod_toRide_31  10 Z d (Z 100 22) ((-1)) 1
set_option maxRecDepth 4000 in
theorem w_Mod_toRide_21 {g : GG} {Q : QT} {h : Hp} {kc ks : Nat} (hst : (gl g).stackTraces = false) {A : Nat → Nat} (hnd : (gK (moL g A)).Nodup)  (Z : Nat → Nat → Int32) (d : Nat) (hw : wfM Z) (hd : d < 5) (hk : Q (.inl (some (.int (f_Mod_toRide_21  Z d).1))) (ov h (gO (moL g A) ((f_Mod_toRide_21  Z d).2)))) : PW g M_Mod_toRide 7 kc ks Q 21 [.ref (A 100), .int (nI (d)), .retAddr 0, .retAddr 0, .retAddr 0] [] (ov h (gO (moL g A) Z)) := by
  have hz0 := hw.blk.2
  have hz1 := hw.lnk.2
  have hz2 := hw.dvs.2
  refine pw_aload_n e_Mod_toRide_21 rfl ?_
  refine pw_getf e_Mod_toRide_22 fl_Mod_68 (gO_get hnd (i := 0) rfl) rfl ?_
  refine pw_istore_n (ls2 := [_, _, _, _, _]) e_Mod_toRide_25 (by decide) rfl ?_
  refine pw_iconst (v := (-1)) e_Mod_toRide_26 (by decide) ?_
  refine pw_istore_n (ls2 := [_, _, _, _, _]) e_Mod_toRide_27 (by decide) rfl ?_
  refine pw_iconst (v := nI 1) e_Mod_toRide_28 (by decide) ?_
  refine pw_istore (ls2 := [_, _, _, _, _]) e_Mod_toRide_29 (by decide) rfl ?_
  refine w_Mod_toRide_31 hst hnd 10 Z d (Z 100 22) ((-1)) 1 hw (by omega) (by omega) (by omega) ?_
  rw [f_Mod_toRide_21] at hk
  exact hk
def f_Mod_toRide  (Z : Nat → Nat → Int32) : Int32 × (Nat → Nat → Int32) :=
  if (((u2 Z 100 18 0) 0) 206) = ((-1)) then ((-1), u2 Z 100 18 0) else f_Mod_toRide_21  (u2 Z 100 18 0) ((((u2 Z 100 18 0) 0) 206).toNatClampNeg)
set_option maxRecDepth 4000 in
theorem w_Mod_toRide_0 {g : GG} {Q : QT} {h : Hp} {kc ks : Nat} (hst : (gl g).stackTraces = false) {A : Nat → Nat} (hnd : (gK (moL g A)).Nodup)  (Z : Nat → Nat → Int32) (hw : wfM Z) (hS : Z 0 206 = -1 ∨ ∃ j, j < 5 ∧ Z 0 206 = nI j) (hk : Q (.inl (some (.int (f_Mod_toRide  Z).1))) (ov h (gO (moL g A) ((f_Mod_toRide  Z).2)))) : PW g M_Mod_toRide 7 kc ks Q 0 [.ref (A 100), .retAddr 0, .retAddr 0, .retAddr 0, .retAddr 0] [] (ov h (gO (moL g A) Z)) := by
  have hz0 := hw.blk.2
  have hz1 := hw.lnk.2
  have hz2 := hw.dvs.2
  refine pw_aload_n e_Mod_toRide_0 rfl ?_
  refine pw_iconst (v := nI 0) e_Mod_toRide_1 (by decide) ?_
  refine pw_putGi (i := 0) (ps := 18) (x := 0) e_Mod_toRide_2 fp_Mod_159 hnd (mo_x _ _) rfl (Nat.le_of_ble_eq_true rfl) rfl rfl (fun _ _ => rfl) ?_
  refine pw_aload_n e_Mod_toRide_5 rfl ?_
  refine pw_getf e_Mod_toRide_6 fl_Mod_9 (gO_get hnd (i := 0) rfl) rfl ?_
  refine pw_sipush (v := nI 206) e_Mod_toRide_9 (by decide) ?_
  refine pw_ialdN e_Mod_toRide_12 (gO_get hnd (i := 1) rfl) (by omega) (by decide) ?_
  refine pw_istore_n (ls2 := [_, _, _, _, _]) e_Mod_toRide_13 (by decide) rfl ?_
  refine pw_iload_n e_Mod_toRide_14 rfl ?_
  refine pw_iconst (v := (-1)) e_Mod_toRide_15 (by decide) ?_
  refine pw_icmp_ne (tgt := 21) e_Mod_toRide_16 (by decide) (fun (H1 : ¬ (((u2 Z 100 18 0) 0) 206) = ((-1))) => ?_) (fun (H1 : (((u2 Z 100 18 0) 0) 206) = ((-1))) => ?_)
  · refine pw_eqls (ls' := [.ref (A 100), .int (nI ((((u2 Z 100 18 0) 0) 206).toNatClampNeg)), .retAddr 0, .retAddr 0, .retAddr 0]) (by rw [← (show ((u2 Z 100 18 0) 0) 206 = nI ((((u2 Z 100 18 0) 0) 206).toNatClampNeg) from (sch_of hS H1).1)]) ?_
    refine w_Mod_toRide_21 hst hnd (u2 Z 100 18 0) ((((u2 Z 100 18 0) 0) 206).toNatClampNeg) (wfM.u100 (i := 18) hw (by decide)) (sch_of hS H1).2 ?_
    rw [f_Mod_toRide, if_neg H1] at hk
    exact hk
  · refine pw_iconst (v := (-1)) e_Mod_toRide_19 (by decide) ?_
    refine pw_iret e_Mod_toRide_20 rfl rfl ?_
    rw [f_Mod_toRide, if_pos H1] at hk
    exact hk
theorem q_Mod_toRide {g : GG} {h : Hp} (hst : (gl g).stackTraces = false) {A : Nat → Nat} (hnd : (gK (moL g A)).Nodup)  (Z : Nat → Nat → Int32) (hm : ∀ q ∈ gO (moL g A) Z, h q.1 = some q.2) (hw : wfM Z) (hS : Z 0 206 = -1 ∨ ∃ j, j < 5 ∧ Z 0 206 = nI j) : PM g M_Mod_toRide 7 0 0 [.ref (A 100)] h (RetV (some (.int (f_Mod_toRide  Z).1)) (ov h (gO (moL g A) ((f_Mod_toRide  Z).2)))) := by
  refine PM.of hst (by decide) rfl (fun v hv => ?_) (Nat.le_of_ble_eq_true rfl) ?_
  · simp only [List.mem_cons, List.not_mem_nil, or_false] at hv; rcases hv with rfl <;> rfl
  · have hq := w_Mod_toRide_0 (g := g) (Q := RetV (some (.int (f_Mod_toRide  Z).1)) (ov h (gO (moL g A) ((f_Mod_toRide  Z).2)))) (h := h) (kc := 0) (ks := 0) hst hnd Z hw hS ?_
    · rw [ov_self hm] at hq; exact hq
    · exact ⟨rfl, rfl⟩

theorem q_lkN {g : GG} {h : Hp} (hst : (gl g).stackTraces = false) {A : Nat → Nat} {P : Nat → Nat → Int32} (hP : ModAt g A P h) (hw : wfM P) (k w : Nat) (hkk : k < 10) (hw3 : w < 3) : PM g M_Mod_linkTo 0 0 0 [.ref (A 100), .int (nI k), .int (nI w)] h (RetV (some (.int (nI (lkP P k w) + -1))) h) := by
  rw [← (lk_of hw k w).1]; exact q_Mod_linkTo hst hP hw k w hkk hw3
def f_Mod_isTame_15 (b : Nat) (x : Int32) (n : Nat) : Nat → (Nat → Nat → Int32) → (Nat) → (Nat) → Int32 × (Nat → Nat → Int32)
  | 0, Z, _, _ => (0, Z)
  | t + 1, Z, j, k => if n ≤ k then (1, Z) else if (nI j + -1) = ((-1)) then if (0 - (((va_up Z 0 (f_Mod_cycle Z 210 (Z 0))) 0) ((210 + 8 * b) + 2))) ≤ x then f_Mod_isTame_15 b x n t (va_up Z 0 (f_Mod_cycle Z 210 (Z 0))) j (k + 1) else (0, va_up Z 0 (f_Mod_cycle Z 210 (Z 0))) else if ((((va_up Z 0 (f_Mod_cycle Z 210 (Z 0))) 0) ((210 + 70 + 10 * j) + 0)) - (((va_up Z 0 (f_Mod_cycle Z 210 (Z 0))) 0) ((210 + 8 * b) + 2))) ≤ x then f_Mod_isTame_15 b x n t (va_up Z 0 (f_Mod_cycle Z 210 (Z 0))) j (k + 1) else (0, va_up Z 0 (f_Mod_cycle Z 210 (Z 0)))
set_option maxRecDepth 4000 in
theorem w_Mod_isTame_15 {g : GG} {Q : QT} {h : Hp} {kc ks : Nat} (hst : (gl g).stackTraces = false) {A : Nat → Nat} (hnd : (gK (moL g A)).Nodup) (b : Nat) (x : Int32) (n : Nat) (hb : b < 10) (hn : n < 31)  (t : Nat) : ∀ (Z : Nat → Nat → Int32) (j : Nat) (k : Nat) (hw : wfM Z) (hj : j ≤ 12) (hk9 : k ≤ n) (hlt : n - k < t) (hk : Q (.inl (some (.int (f_Mod_isTame_15 b x n t Z j k).1))) (ov h (gO (moL g A) ((f_Mod_isTame_15 b x n t Z j k).2)))), PW g M_Mod_isTame 6 kc ks Q 15 [.ref (A 100), .int (nI (b)), .int (x), .int (nI (n)), .int (nI j + -1), .int (nI (k)), .retAddr 0] [] (ov h (gO (moL g A) Z)) := by
  induction t with
  | zero => intro Z j k hw hj hk9 hlt _; exact absurd hlt (Nat.not_lt_zero _)
  | succ t ih =>
    intro Z j k hw hj hk9 hlt hk
    have hz0 := hw.blk.2
    have hz1 := hw.lnk.2
    have hz2 := hw.dvs.2
    refine pw_iload e_Mod_isTame_15 rfl ?_
    refine pw_iload_n e_Mod_isTame_17 rfl ?_
    refine pw_icmp_geN (tgt := 84) e_Mod_isTame_18 (by decide) (by omega) (by omega) (fun (H1 : n ≤ k) => ?_) (fun (H1 : k < n) => ?_)
    · refine pw_iconst (v := nI 1) e_Mod_isTame_84 (by decide) ?_
      refine pw_iret e_Mod_isTame_85 rfl (by decide) ?_
      rw [f_Mod_isTame_15, if_pos H1] at hk
      exact hk
    · refine pw_aload_n e_Mod_isTame_21 rfl ?_
      refine pw_sipush (v := nI 210) e_Mod_isTame_22 (by decide) ?_
      refine pw_detV (As := [.int (nI (210))]) e_Mod_isTame_25 li_Mod_270 rfl (gO_get hnd (i := 0) rfl) (q_Mod_cycle hst (mo_at hnd) hw 210 (by omega) (Z 0) (gO_get hnd (i := 1) rfl)) rfl (by decide) (Nat.le_of_ble_eq_true rfl) rfl ?_
      refine pw_upG (i := 1) hnd (mo_x _ _) rfl rfl ?_
      refine pw_iload e_Mod_isTame_28 rfl ?_
      refine pw_iconst (v := (-1)) e_Mod_isTame_30 (by decide) ?_
      refine pw_icmp_ne (tgt := 38) e_Mod_isTame_31 (by decide) (fun (H2 : ¬ (nI j + -1) = ((-1))) => ?_) (fun (H2 : (nI j + -1) = ((-1))) => ?_)
      · refine pw_aload_n e_Mod_isTame_38 rfl ?_
        refine pw_getf e_Mod_isTame_39 fl_Mod_9 (gO_get hnd (i := 0) rfl) rfl ?_
        refine pw_sipush (v := nI 210) e_Mod_isTame_42 (by decide) ?_
        refine pw_iload e_Mod_isTame_45 rfl ?_
        refine pw_detS (As := [.int (nI (210)), .int (nI j + -1)]) e_Mod_isTame_47 li_Mod_199 (q_linkAtP hst 210 j) rfl (by decide) (Nat.le_of_ble_eq_true rfl) rfl ?_
        refine pw_iconst (v := nI 0) e_Mod_isTame_50 (by decide) ?_
        refine pw_iaddN e_Mod_isTame_51 ?_
        refine pw_ialdN e_Mod_isTame_52 (gO_get hnd (i := 1) rfl) (by omega) (by decide) ?_
        refine pw_istore (ls2 := [_, _, _, _, _, _, _]) e_Mod_isTame_53 (by decide) rfl ?_
        refine pw_iload e_Mod_isTame_55 rfl ?_
        refine pw_aload_n e_Mod_isTame_57 rfl ?_
        refine pw_getf e_Mod_isTame_58 fl_Mod_9 (gO_get hnd (i := 0) rfl) rfl ?_
        refine pw_sipush (v := nI 210) e_Mod_isTame_61 (by decide) ?_
        refine pw_iload_n e_Mod_isTame_64 rfl ?_
        refine pw_detS (As := [.int (nI (210)), .int (nI (b))]) e_Mod_isTame_65 li_Mod_193 (q_at hst 210 b) rfl (by decide) (Nat.le_of_ble_eq_true rfl) rfl ?_
        refine pw_iconst (v := nI 2) e_Mod_isTame_68 (by decide) ?_
        refine pw_iaddN e_Mod_isTame_69 ?_
        refine pw_ialdN e_Mod_isTame_70 (gO_get hnd (i := 1) rfl) (by omega) (by decide) ?_
        refine pw_isub e_Mod_isTame_71 ?_
        refine pw_iload_n e_Mod_isTame_72 rfl ?_
        refine pw_icmp_le (tgt := 78) e_Mod_isTame_73 (by decide) (fun (H3 : ((((va_up Z 0 (f_Mod_cycle Z 210 (Z 0))) 0) ((210 + 70 + 10 * j) + 0)) - (((va_up Z 0 (f_Mod_cycle Z 210 (Z 0))) 0) ((210 + 8 * b) + 2))) ≤ x) => ?_) (fun (H3 : ¬ ((((va_up Z 0 (f_Mod_cycle Z 210 (Z 0))) 0) ((210 + 70 + 10 * j) + 0)) - (((va_up Z 0 (f_Mod_cycle Z 210 (Z 0))) 0) ((210 + 8 * b) + 2))) ≤ x) => ?_)
        · refine pw_iincN (ls2 := [_, _, _, _, _, _, _]) e_Mod_isTame_78 rfl (by decide) rfl ?_
          refine pw_goto (tgt := 15) e_Mod_isTame_81 (by decide) ?_
          refine pw_fgt (ls' := [.ref (A 100), .int (nI (b)), .int (x), .int (nI (n)), .int (nI j + -1), .int (nI (k + 1)), .retAddr 0]) ⟨Or.inr rfl, Or.inr rfl, Or.inr rfl, Or.inr rfl, Or.inr rfl, Or.inr rfl, Or.inl rfl, trivial⟩ ?_
          refine ih (va_up Z 0 (f_Mod_cycle Z 210 (Z 0))) j (k + 1) (wfM.up0 hw) (by omega) (by omega) (by omega) ?_
          rw [f_Mod_isTame_15, if_neg (Nat.not_le.mpr H1), if_neg H2, if_pos H3] at hk
          exact hk
        · refine pw_iconst (v := nI 0) e_Mod_isTame_76 (by decide) ?_
          refine pw_iret e_Mod_isTame_77 rfl (by decide) ?_
          rw [f_Mod_isTame_15, if_neg (Nat.not_le.mpr H1), if_neg H2, if_neg H3] at hk
          exact hk
      · refine pw_iconst (v := nI 0) e_Mod_isTame_34 (by decide) ?_
        refine pw_goto (tgt := 53) e_Mod_isTame_35 (by decide) ?_
        refine pw_istore (ls2 := [_, _, _, _, _, _, _]) e_Mod_isTame_53 (by decide) rfl ?_
        refine pw_iload e_Mod_isTame_55 rfl ?_
        refine pw_aload_n e_Mod_isTame_57 rfl ?_
        refine pw_getf e_Mod_isTame_58 fl_Mod_9 (gO_get hnd (i := 0) rfl) rfl ?_
        refine pw_sipush (v := nI 210) e_Mod_isTame_61 (by decide) ?_
        refine pw_iload_n e_Mod_isTame_64 rfl ?_
        refine pw_detS (As := [.int (nI (210)), .int (nI (b))]) e_Mod_isTame_65 li_Mod_193 (q_at hst 210 b) rfl (by decide) (Nat.le_of_ble_eq_true rfl) rfl ?_
        refine pw_iconst (v := nI 2) e_Mod_isTame_68 (by decide) ?_
        refine pw_iaddN e_Mod_isTame_69 ?_
        refine pw_ialdN e_Mod_isTame_70 (gO_get hnd (i := 1) rfl) (by omega) (by decide) ?_
        refine pw_isub e_Mod_isTame_71 ?_
        refine pw_iload_n e_Mod_isTame_72 rfl ?_
        refine pw_icmp_le (tgt := 78) e_Mod_isTame_73 (by decide) (fun (H4 : (0 - (((va_up Z 0 (f_Mod_cycle Z 210 (Z 0))) 0) ((210 + 8 * b) + 2))) ≤ x) => ?_) (fun (H4 : ¬ (0 - (((va_up Z 0 (f_Mod_cycle Z 210 (Z 0))) 0) ((210 + 8 * b) + 2))) ≤ x) => ?_)
        · refine pw_iincN (ls2 := [_, _, _, _, _, _, _]) e_Mod_isTame_78 rfl (by decide) rfl ?_
          refine pw_goto (tgt := 15) e_Mod_isTame_81 (by decide) ?_
          refine pw_fgt (ls' := [.ref (A 100), .int (nI (b)), .int (x), .int (nI (n)), .int (nI j + -1), .int (nI (k + 1)), .retAddr 0]) ⟨Or.inr rfl, Or.inr rfl, Or.inr rfl, Or.inr rfl, Or.inr rfl, Or.inr rfl, Or.inl rfl, trivial⟩ ?_
          refine ih (va_up Z 0 (f_Mod_cycle Z 210 (Z 0))) j (k + 1) (wfM.up0 hw) (by omega) (by omega) (by omega) ?_
          rw [f_Mod_isTame_15, if_neg (Nat.not_le.mpr H1), if_pos H2, if_pos H4] at hk
          exact hk
        · refine pw_iconst (v := nI 0) e_Mod_isTame_76 (by decide) ?_
          refine pw_iret e_Mod_isTame_77 rfl (by decide) ?_
          rw [f_Mod_isTame_15, if_neg (Nat.not_le.mpr H1), if_pos H2, if_neg H4] at hk
          exact hk
def f_Mod_isTame (b : Nat) (x : Int32) (n : Nat) (Z : Nat → Nat → Int32) : Int32 × (Nat → Nat → Int32) :=
  f_Mod_isTame_15 b x n 31 (va_up Z 0 (f_Mod_tries Z (Z 0))) ((lkP Z b 0)) 0
set_option maxRecDepth 4000 in
theorem w_Mod_isTame_0 {g : GG} {Q : QT} {h : Hp} {kc ks : Nat} (hst : (gl g).stackTraces = false) {A : Nat → Nat} (hnd : (gK (moL g A)).Nodup) (b : Nat) (x : Int32) (n : Nat) (hb : b < 10) (hn : n < 31)  (Z : Nat → Nat → Int32) (hw : wfM Z) (hk : Q (.inl (some (.int (f_Mod_isTame b x n Z).1))) (ov h (gO (moL g A) ((f_Mod_isTame b x n Z).2)))) : PW g M_Mod_isTame 6 kc ks Q 0 [.ref (A 100), .int (nI (b)), .int (x), .int (nI (n)), .retAddr 0, .retAddr 0, .retAddr 0] [] (ov h (gO (moL g A) Z)) := by
  have hz0 := hw.blk.2
  have hz1 := hw.lnk.2
  have hz2 := hw.dvs.2
  refine pw_aload_n e_Mod_isTame_0 rfl ?_
  refine pw_iload_n e_Mod_isTame_1 rfl ?_
  refine pw_iconst (v := nI 0) e_Mod_isTame_2 (by decide) ?_
  have hb1 := (lk_of hw b 0).2
  refine pw_detV (As := [.int (nI (b)), .int (nI (0))]) e_Mod_isTame_3 li_Mod_196 rfl (gO_get hnd (i := 0) rfl) (q_lkN hst (mo_pl hnd) hw b 0 (by omega) (by omega)) rfl (by decide) (Nat.le_of_ble_eq_true rfl) rfl ?_
  refine pw_istore (ls2 := [_, _, _, _, _, _, _]) e_Mod_isTame_6 (by decide) rfl ?_
  refine pw_aload_n e_Mod_isTame_8 rfl ?_
  refine pw_detV (As := []) e_Mod_isTame_9 li_Mod_429 rfl (gO_get hnd (i := 0) rfl) (q_Mod_tries hst (mo_at hnd) hw  (Z 0) (gO_get hnd (i := 1) rfl)) rfl (by decide) (Nat.le_of_ble_eq_true rfl) rfl ?_
  refine pw_upG (i := 1) hnd (mo_x _ _) rfl rfl ?_
  refine pw_iconst (v := nI 0) e_Mod_isTame_12 (by decide) ?_
  refine pw_istore (ls2 := [_, _, _, _, _, _, _]) e_Mod_isTame_13 (by decide) rfl ?_
  refine w_Mod_isTame_15 hst hnd b x n hb hn 31 (va_up Z 0 (f_Mod_tries Z (Z 0))) ((lkP Z b 0)) 0 (wfM.up0 hw) (by omega) (by omega) (by omega) ?_
  rw [f_Mod_isTame] at hk
  exact hk
theorem q_Mod_isTame {g : GG} {h : Hp} (hst : (gl g).stackTraces = false) {A : Nat → Nat} (hnd : (gK (moL g A)).Nodup) (b : Nat) (x : Int32) (n : Nat) (hb : b < 10) (hn : n < 31)  (Z : Nat → Nat → Int32) (hm : ∀ q ∈ gO (moL g A) Z, h q.1 = some q.2) (hw : wfM Z) : PM g M_Mod_isTame 6 0 0 [.ref (A 100), .int (nI (b)), .int (x), .int (nI (n))] h (RetV (some (.int (f_Mod_isTame b x n Z).1)) (ov h (gO (moL g A) ((f_Mod_isTame b x n Z).2)))) := by
  refine PM.of hst (by decide) rfl (fun v hv => ?_) (Nat.le_of_ble_eq_true rfl) ?_
  · simp only [List.mem_cons, List.not_mem_nil, or_false] at hv; rcases hv with rfl | rfl | rfl | rfl <;> rfl
  · have hq := w_Mod_isTame_0 (g := g) (Q := RetV (some (.int (f_Mod_isTame b x n Z).1)) (ov h (gO (moL g A) ((f_Mod_isTame b x n Z).2)))) (h := h) (kc := 0) (ks := 0) hst hnd b x n hb hn Z hw ?_
    · rw [ov_self hm] at hq; exact hq
    · exact ⟨rfl, rfl⟩

theorem z_isTame_15 {b : Nat} {x : Int32} {n : Nat} : ∀ (t : Nat) {Z : Nat → Nat → Int32} (j : Nat) (k : Nat) (h : wfM Z), wfM (f_Mod_isTame_15 b x n t Z j k).2 := by
  intro t
  induction t with
  | zero => intro Z j k h; exact h
  | succ t ih =>
    intro Z j k h
    rw [f_Mod_isTame_15]
    repeat' split
    all_goals repeat (first | exact h | apply ih | apply wfM.up0 | refine wfM.u100 ?_ (by decide) | refine wfM.uk ?_ (by decide))
theorem z_isTame {b : Nat} {x : Int32} {n : Nat} {Z : Nat → Nat → Int32} (h : wfM Z) : wfM (f_Mod_isTame b x n Z).2 := by
  rw [f_Mod_isTame]; exact z_isTame_15 _ _ _ h.up0
def f_Mod_toTune_85 (x : Int32) (y : Int32) (z : Int32) : Nat → (Nat → Nat → Int32) → (Nat) → (Nat) → (Int32) → (Int32) → Int32 × (Nat → Nat → Int32)
  | 0, Z, _, _, _, _ => (0, Z)
  | t + 1, Z, b, n, it, gn => if gn < 0 then (it, u2 Z 100 44 ((-1))) else if it = ((-1)) then if ((f_Mod_isTame b y n (u2 Z 100 45 gn)).1) = 0 then f_Mod_toTune_85 x y z t ((f_Mod_isTame b y n (u2 Z 100 45 gn)).2) b n it (gn + (-1)) else f_Mod_toTune_85 x y z t ((f_Mod_isTame b y n (u2 Z 100 45 gn)).2) b n gn (gn + (-1)) else (it, u2 Z 100 44 ((-1)))
set_option maxRecDepth 4000 in
theorem w_Mod_toTune_85 {g : GG} {Q : QT} {h : Hp} {kc ks : Nat} (hst : (gl g).stackTraces = false) {A : Nat → Nat} (hnd : (gK (moL g A)).Nodup) (x : Int32) (y : Int32) (z : Int32)  (t : Nat) : ∀ (Z : Nat → Nat → Int32) (b : Nat) (n : Nat) (it : Int32) (gn : Int32) (hw : wfM Z) (hb : b < 10) (hn : n < 31) (hlt : (gn.toInt + 1).toNat < t) (hk : Q (.inl (some (.int (f_Mod_toTune_85 x y z t Z b n it gn).1))) (ov h (gO (moL g A) ((f_Mod_toTune_85 x y z t Z b n it gn).2)))), PW g M_Mod_toTune 7 kc ks Q 85 [.ref (A 100), .int (nI (b)), .int (y), .int (nI (n)), .int (it), .int (gn)] [] (ov h (gO (moL g A) Z)) := by
  induction t with
  | zero => intro Z b n it gn hw hb hn hlt _; exact absurd hlt (Nat.not_lt_zero _)
  | succ t ih =>
    intro Z b n it gn hw hb hn hlt hk
    have hz0 := hw.blk.2
    have hz1 := hw.lnk.2
    have hz2 := hw.dvs.2
    refine pw_iload e_Mod_toTune_85 rfl ?_
    refine pw_if_lt (tgt := 122) e_Mod_toTune_87 (by decide) (fun (H1 : gn < 0) => ?_) (fun (H1 : ¬ gn < 0) => ?_)
    · refine pw_aload_n e_Mod_toTune_122 rfl ?_
      refine pw_iconst (v := (-1)) e_Mod_toTune_123 (by decide) ?_
      refine pw_putGi (i := 0) (ps := 44) (x := (-1)) e_Mod_toTune_124 fp_Mod_105 hnd (mo_x _ _) rfl (Nat.le_of_ble_eq_true rfl) rfl rfl (fun _ _ => rfl) ?_
      refine pw_iload e_Mod_toTune_127 rfl ?_
      refine pw_iret e_Mod_toTune_129 rfl rfl ?_
      rw [f_Mod_toTune_85, if_pos H1] at hk
      exact hk
    · refine pw_iload e_Mod_toTune_90 rfl ?_
      refine pw_iconst (v := (-1)) e_Mod_toTune_92 (by decide) ?_
      refine pw_icmp_ne (tgt := 122) e_Mod_toTune_93 (by decide) (fun (H2 : ¬ it = ((-1))) => ?_) (fun (H2 : it = ((-1))) => ?_)
      · refine pw_aload_n e_Mod_toTune_122 rfl ?_
        refine pw_iconst (v := (-1)) e_Mod_toTune_123 (by decide) ?_
        refine pw_putGi (i := 0) (ps := 44) (x := (-1)) e_Mod_toTune_124 fp_Mod_105 hnd (mo_x _ _) rfl (Nat.le_of_ble_eq_true rfl) rfl rfl (fun _ _ => rfl) ?_
        refine pw_iload e_Mod_toTune_127 rfl ?_
        refine pw_iret e_Mod_toTune_129 rfl rfl ?_
        rw [f_Mod_toTune_85, if_neg H1, if_neg H2] at hk
        exact hk
      · refine pw_aload_n e_Mod_toTune_96 rfl ?_
        refine pw_iload e_Mod_toTune_97 rfl ?_
        refine pw_putGi (i := 0) (ps := 45) (x := gn) e_Mod_toTune_99 fp_Mod_202 hnd (mo_x _ _) rfl (Nat.le_of_ble_eq_true rfl) rfl rfl (fun _ _ => rfl) ?_
        refine pw_aload_n e_Mod_toTune_102 rfl ?_
        refine pw_iload_n e_Mod_toTune_103 rfl ?_
        refine pw_iload_n e_Mod_toTune_104 rfl ?_
        refine pw_iload_n e_Mod_toTune_105 rfl ?_
        refine pw_detV (As := [.int (nI (b)), .int (y), .int (nI (n))]) e_Mod_toTune_106 li_Mod_441 rfl (gO_get hnd (i := 0) rfl) (q_Mod_isTame hst hnd b y n (by omega) (by omega) (u2 Z 100 45 gn) (gO_in hnd (fun _ z => z)) (wfM.u100 (i := 45) hw (by decide))) rfl (by decide) (Nat.le_of_ble_eq_true rfl) rfl ?_
        refine pw_sameG hnd ?_
        refine pw_if_eq (tgt := 116) e_Mod_toTune_109 (by decide) (fun (H3 : ((f_Mod_isTame b y n (u2 Z 100 45 gn)).1) = 0) => ?_) (fun (H3 : ¬ ((f_Mod_isTame b y n (u2 Z 100 45 gn)).1) = 0) => ?_)
        · refine pw_iinc (v := gn + (-1)) (ls2 := [_, _, _, _, _, _]) e_Mod_toTune_116 rfl rfl (by decide) rfl ?_
          refine pw_goto (tgt := 85) e_Mod_toTune_119 (by decide) ?_
          refine ih ((f_Mod_isTame b y n (u2 Z 100 45 gn)).2) b n it (gn + (-1)) (z_isTame (wfM.u100 (i := 45) hw (by decide))) (by omega) (by omega) (dn_of H1 hlt) ?_
          rw [f_Mod_toTune_85, if_neg H1, if_pos H2, if_pos H3] at hk
          exact hk
        · refine pw_iload e_Mod_toTune_112 rfl ?_
          refine pw_istore (ls2 := [_, _, _, _, _, _]) e_Mod_toTune_114 (by decide) rfl ?_
          refine pw_iinc (v := gn + (-1)) (ls2 := [_, _, _, _, _, _]) e_Mod_toTune_116 rfl rfl (by decide) rfl ?_
          refine pw_goto (tgt := 85) e_Mod_toTune_119 (by decide) ?_
          refine ih ((f_Mod_isTame b y n (u2 Z 100 45 gn)).2) b n gn (gn + (-1)) (z_isTame (wfM.u100 (i := 45) hw (by decide))) (by omega) (by omega) (dn_of H1 hlt) ?_
          rw [f_Mod_toTune_85, if_neg H1, if_pos H2, if_neg H3] at hk
          exact hk
def f_Mod_toTune_72 (x : Int32) (y : Int32) (z : Int32) (Z : Nat → Nat → Int32) (b : Nat) (n : Nat) : Int32 × (Nat → Nat → Int32) :=
  f_Mod_toTune_85 x y z 302 (u2 Z 100 44 (nI (b))) b n ((-1)) 300
set_option maxRecDepth 4000 in
theorem w_Mod_toTune_72 {g : GG} {Q : QT} {h : Hp} {kc ks : Nat} (hst : (gl g).stackTraces = false) {A : Nat → Nat} (hnd : (gK (moL g A)).Nodup) (x : Int32) (y : Int32) (z : Int32)  (Z : Nat → Nat → Int32) (b : Nat) (n : Nat) (hw : wfM Z) (hb : b < 10) (hn : n < 31) (hk : Q (.inl (some (.int (f_Mod_toTune_72 x y z Z b n).1))) (ov h (gO (moL g A) ((f_Mod_toTune_72 x y z Z b n).2)))) : PW g M_Mod_toTune 7 kc ks Q 72 [.ref (A 100), .int (nI (b)), .int (y), .int (nI (n)), .retAddr 0, .retAddr 0] [] (ov h (gO (moL g A) Z)) := by
  have hz0 := hw.blk.2
  have hz1 := hw.lnk.2
  have hz2 := hw.dvs.2
  refine pw_aload_n e_Mod_toTune_72 rfl ?_
  refine pw_iload_n e_Mod_toTune_73 rfl ?_
  refine pw_putGi (i := 0) (ps := 44) (x := nI (b)) e_Mod_toTune_74 fp_Mod_105 hnd (mo_x _ _) rfl (Nat.le_of_ble_eq_true rfl) rfl rfl (fun _ _ => rfl) ?_
  refine pw_iconst (v := (-1)) e_Mod_toTune_77 (by decide) ?_
  refine pw_istore (ls2 := [_, _, _, _, _, _]) e_Mod_toTune_78 (by decide) rfl ?_
  refine pw_sipush (v := nI 300) e_Mod_toTune_80 (by decide) ?_
  refine pw_istore (ls2 := [_, _, _, _, _, _]) e_Mod_toTune_83 (by decide) rfl ?_
  refine w_Mod_toTune_85 hst hnd x y z 302 (u2 Z 100 44 (nI (b))) b n ((-1)) 300 (wfM.u100 (i := 44) hw (by decide)) (by omega) (by omega) (by decide) ?_
  rw [f_Mod_toTune_72] at hk
  exact hk
def f_Mod_toTune_13 (x : Int32) (y : Int32) (z : Int32) (Z : Nat → Nat → Int32) (b : Nat) : Int32 × (Nat → Nat → Int32) :=
  if (pN Z 3 b) = 1 then if ((f_Mod_right (nI 1) (nI 1) Z).1) = 0 then (0, (f_Mod_right (nI 1) (nI 1) Z).2) else if (f_Mod_within y (nI 0) (nI 1000)) = 0 then (0, (f_Mod_right (nI 0) (nI 2) ((f_Mod_right (nI 1) (nI 1) Z).2)).2) else if (f_Mod_within z (nI 1) (nI 30)) = 0 then (0, (f_Mod_right (nI 0) (nI 2) ((f_Mod_right (nI 1) (nI 1) Z).2)).2) else if ((f_Mod_right (nI 1) (nI 2) ((f_Mod_right (nI 1) (nI 1) Z).2)).1) = 0 then (0, (f_Mod_right (nI 1) (nI 2) ((f_Mod_right (nI 1) (nI 1) Z).2)).2) else f_Mod_toTune_72 x y z ((f_Mod_right (nI 1) (nI 2) ((f_Mod_right (nI 1) (nI 1) Z).2)).2) b z.toNatClampNeg else (0, (f_Mod_right (nI 0) (nI 1) Z).2)
set_option maxRecDepth 4000 in
theorem w_Mod_toTune_13 {g : GG} {Q : QT} {h : Hp} {kc ks : Nat} (hst : (gl g).stackTraces = false) {A : Nat → Nat} (hnd : (gK (moL g A)).Nodup) (x : Int32) (y : Int32) (z : Int32)  (Z : Nat → Nat → Int32) (b : Nat) (hw : wfM Z) (hb : b < 10) (hk : Q (.inl (some (.int (f_Mod_toTune_13 x y z Z b).1))) (ov h (gO (moL g A) ((f_Mod_toTune_13 x y z Z b).2)))) : PW g M_Mod_toTune 7 kc ks Q 13 [.ref (A 100), .int (nI (b)), .int (y), .int (z), .retAddr 0, .retAddr 0] [] (ov h (gO (moL g A) Z)) := by
  have hz0 := hw.blk.2
  have hz1 := hw.lnk.2
  have hz2 := hw.dvs.2
  refine pw_aload_n e_Mod_toTune_13 rfl ?_
  refine pw_aload_n e_Mod_toTune_14 rfl ?_
  refine pw_getf e_Mod_toTune_15 fl_Mod_19 (gO_get hnd (i := 0) rfl) rfl ?_
  refine pw_iload_n e_Mod_toTune_18 rfl ?_
  have hb1 := hw.kind b
  refine pw_ialdC e_Mod_toTune_19 (gO_get hnd (i := 4) rfl) (by omega) (by decide) hb1.1 ?_
  replace hb1 := hb1.2
  refine pw_iconst (v := nI 1) e_Mod_toTune_20 (by decide) ?_
  refine pw_icmp_neN (tgt := 28) e_Mod_toTune_21 (by decide) (by omega) (by omega) (fun (H2 : ¬ (pN Z 3 b) = 1) => ?_) (fun (H2 : (pN Z 3 b) = 1) => ?_)
  · refine pw_iconst (v := nI 0) e_Mod_toTune_28 (by decide) ?_
    refine pw_iconst (v := nI 1) e_Mod_toTune_29 (by decide) ?_
    refine pw_detV (As := [.int (nI (0)), .int (nI (1))]) e_Mod_toTune_30 li_Mod_372 rfl (gO_get hnd (i := 0) rfl) (q_Mod_right hst hnd (nI 0) (nI 1) Z (gO_in hnd (fun _ z => z))) rfl (by decide) (Nat.le_of_ble_eq_true rfl) rfl ?_
    refine pw_sameG hnd ?_
    refine pw_if_eq (tgt := 70) e_Mod_toTune_33 (by decide) (fun (H3 : ((f_Mod_right (nI 0) (nI 1) Z).1) = 0) => ?_) (fun (H3 : ¬ ((f_Mod_right (nI 0) (nI 1) Z).1) = 0) => ?_)
    · refine pw_iconst (v := nI 0) e_Mod_toTune_70 (by decide) ?_
      refine pw_iret e_Mod_toTune_71 rfl rfl ?_
      rw [f_Mod_toTune_13, if_neg H2] at hk
      exact hk
    · exact absurd H3 (fun q => (rt_of (by decide) q).1 rfl)
  · refine pw_iconst (v := nI 1) e_Mod_toTune_24 (by decide) ?_
    refine pw_goto (tgt := 29) e_Mod_toTune_25 (by decide) ?_
    refine pw_iconst (v := nI 1) e_Mod_toTune_29 (by decide) ?_
    refine pw_detV (As := [.int (nI (1)), .int (nI (1))]) e_Mod_toTune_30 li_Mod_372 rfl (gO_get hnd (i := 0) rfl) (q_Mod_right hst hnd (nI 1) (nI 1) Z (gO_in hnd (fun _ z => z))) rfl (by decide) (Nat.le_of_ble_eq_true rfl) rfl ?_
    refine pw_sameG hnd ?_
    refine pw_if_eq (tgt := 70) e_Mod_toTune_33 (by decide) (fun (H4 : ((f_Mod_right (nI 1) (nI 1) Z).1) = 0) => ?_) (fun (H4 : ¬ ((f_Mod_right (nI 1) (nI 1) Z).1) = 0) => ?_)
    · refine pw_iconst (v := nI 0) e_Mod_toTune_70 (by decide) ?_
      refine pw_iret e_Mod_toTune_71 rfl rfl ?_
      rw [f_Mod_toTune_13, if_pos H2, if_pos H4] at hk
      exact hk
    · refine pw_aload_n e_Mod_toTune_36 rfl ?_
      refine pw_iload_n e_Mod_toTune_37 rfl ?_
      refine pw_iconst (v := nI 0) e_Mod_toTune_38 (by decide) ?_
      refine pw_sipush (v := nI 1000) e_Mod_toTune_39 (by decide) ?_
      refine pw_detS (As := [.int (y), .int (nI (0)), .int (nI (1000))]) e_Mod_toTune_42 li_Mod_312 (q_Mod_within hst y (nI 0) (nI 1000)) rfl (by decide) (Nat.le_of_ble_eq_true rfl) rfl ?_
      refine pw_if_eq (tgt := 62) e_Mod_toTune_45 (by decide) (fun (H5 : (f_Mod_within y (nI 0) (nI 1000)) = 0) => ?_) (fun (H5 : ¬ (f_Mod_within y (nI 0) (nI 1000)) = 0) => ?_)
      · refine pw_iconst (v := nI 0) e_Mod_toTune_62 (by decide) ?_
        refine pw_iconst (v := nI 2) e_Mod_toTune_63 (by decide) ?_
        refine pw_detV (As := [.int (nI (0)), .int (nI (2))]) e_Mod_toTune_64 li_Mod_372 rfl (gO_get hnd (i := 0) rfl) (q_Mod_right hst hnd (nI 0) (nI 2) ((f_Mod_right (nI 1) (nI 1) Z).2) (gO_in hnd (fun _ z => z))) rfl (by decide) (Nat.le_of_ble_eq_true rfl) rfl ?_
        refine pw_sameG hnd ?_
        refine pw_if_ne (tgt := 72) e_Mod_toTune_67 (by decide) (fun (H6 : ¬ ((f_Mod_right (nI 0) (nI 2) ((f_Mod_right (nI 1) (nI 1) Z).2)).1) = 0) => ?_) (fun (H6 : ((f_Mod_right (nI 0) (nI 2) ((f_Mod_right (nI 1) (nI 1) Z).2)).1) = 0) => ?_)
        · exact absurd H6 (fun q => (rt_of (by decide) q).1 rfl)
        · refine pw_iconst (v := nI 0) e_Mod_toTune_70 (by decide) ?_
          refine pw_iret e_Mod_toTune_71 rfl rfl ?_
          rw [f_Mod_toTune_13, if_pos H2, if_neg H4, if_pos H5] at hk
          exact hk
      · refine pw_iload_n e_Mod_toTune_48 rfl ?_
        refine pw_iconst (v := nI 1) e_Mod_toTune_49 (by decide) ?_
        refine pw_bipush (v := nI 30) e_Mod_toTune_50 (by decide) ?_
        refine pw_detS (As := [.int (z), .int (nI (1)), .int (nI (30))]) e_Mod_toTune_52 li_Mod_312 (q_Mod_within hst z (nI 1) (nI 30)) rfl (by decide) (Nat.le_of_ble_eq_true rfl) rfl ?_
        refine pw_if_eq (tgt := 62) e_Mod_toTune_55 (by decide) (fun (H7 : (f_Mod_within z (nI 1) (nI 30)) = 0) => ?_) (fun (H7 : ¬ (f_Mod_within z (nI 1) (nI 30)) = 0) => ?_)
        · refine pw_iconst (v := nI 0) e_Mod_toTune_62 (by decide) ?_
          refine pw_iconst (v := nI 2) e_Mod_toTune_63 (by decide) ?_
          refine pw_detV (As := [.int (nI (0)), .int (nI (2))]) e_Mod_toTune_64 li_Mod_372 rfl (gO_get hnd (i := 0) rfl) (q_Mod_right hst hnd (nI 0) (nI 2) ((f_Mod_right (nI 1) (nI 1) Z).2) (gO_in hnd (fun _ z => z))) rfl (by decide) (Nat.le_of_ble_eq_true rfl) rfl ?_
          refine pw_sameG hnd ?_
          refine pw_if_ne (tgt := 72) e_Mod_toTune_67 (by decide) (fun (H8 : ¬ ((f_Mod_right (nI 0) (nI 2) ((f_Mod_right (nI 1) (nI 1) Z).2)).1) = 0) => ?_) (fun (H8 : ((f_Mod_right (nI 0) (nI 2) ((f_Mod_right (nI 1) (nI 1) Z).2)).1) = 0) => ?_)
          · exact absurd H8 (fun q => (rt_of (by decide) q).1 rfl)
          · refine pw_iconst (v := nI 0) e_Mod_toTune_70 (by decide) ?_
            refine pw_iret e_Mod_toTune_71 rfl rfl ?_
            rw [f_Mod_toTune_13, if_pos H2, if_neg H4, if_neg H5, if_pos H7] at hk
            exact hk
        · refine pw_iconst (v := nI 1) e_Mod_toTune_58 (by decide) ?_
          refine pw_goto (tgt := 63) e_Mod_toTune_59 (by decide) ?_
          refine pw_iconst (v := nI 2) e_Mod_toTune_63 (by decide) ?_
          refine pw_detV (As := [.int (nI (1)), .int (nI (2))]) e_Mod_toTune_64 li_Mod_372 rfl (gO_get hnd (i := 0) rfl) (q_Mod_right hst hnd (nI 1) (nI 2) ((f_Mod_right (nI 1) (nI 1) Z).2) (gO_in hnd (fun _ z => z))) rfl (by decide) (Nat.le_of_ble_eq_true rfl) rfl ?_
          refine pw_sameG hnd ?_
          refine pw_if_ne (tgt := 72) e_Mod_toTune_67 (by decide) (fun (H9 : ¬ ((f_Mod_right (nI 1) (nI 2) ((f_Mod_right (nI 1) (nI 1) Z).2)).1) = 0) => ?_) (fun (H9 : ((f_Mod_right (nI 1) (nI 2) ((f_Mod_right (nI 1) (nI 1) Z).2)).1) = 0) => ?_)
          · refine pw_eqls (ls' := [.ref (A 100), .int (nI (b)), .int (y), .int (nI (z.toNatClampNeg)), .retAddr 0, .retAddr 0]) (by rw [← (show z = nI (z.toNatClampNeg) from (win_M1 (n := 30) (by decide) H7).1)]) ?_
            refine w_Mod_toTune_72 hst hnd x y z ((f_Mod_right (nI 1) (nI 2) ((f_Mod_right (nI 1) (nI 1) Z).2)).2) b z.toNatClampNeg (z_right (z_right hw)) (by omega) (win_M1 (n := 30) (by decide) H7).2.2 ?_
            rw [f_Mod_toTune_13, if_pos H2, if_neg H4, if_neg H5, if_neg H7, if_neg H9] at hk
            exact hk
          · refine pw_iconst (v := nI 0) e_Mod_toTune_70 (by decide) ?_
            refine pw_iret e_Mod_toTune_71 rfl rfl ?_
            rw [f_Mod_toTune_13, if_pos H2, if_neg H4, if_neg H5, if_neg H7, if_pos H9] at hk
            exact hk
def f_Mod_toTune (x : Int32) (y : Int32) (z : Int32) (Z : Nat → Nat → Int32) : Int32 × (Nat → Nat → Int32) :=
  if ((f_Mod_isBlock x (u2 Z 100 18 0)).1) = 0 then (0, (f_Mod_isBlock x (u2 Z 100 18 0)).2) else f_Mod_toTune_13 x y z ((f_Mod_isBlock x (u2 Z 100 18 0)).2) x.toNatClampNeg
set_option maxRecDepth 4000 in
theorem w_Mod_toTune_0 {g : GG} {Q : QT} {h : Hp} {kc ks : Nat} (hst : (gl g).stackTraces = false) {A : Nat → Nat} (hnd : (gK (moL g A)).Nodup) (x : Int32) (y : Int32) (z : Int32)  (Z : Nat → Nat → Int32) (hw : wfM Z) (hk : Q (.inl (some (.int (f_Mod_toTune x y z Z).1))) (ov h (gO (moL g A) ((f_Mod_toTune x y z Z).2)))) : PW g M_Mod_toTune 7 kc ks Q 0 [.ref (A 100), .int (x), .int (y), .int (z), .retAddr 0, .retAddr 0] [] (ov h (gO (moL g A) Z)) := by
  have hz0 := hw.blk.2
  have hz1 := hw.lnk.2
  have hz2 := hw.dvs.2
  refine pw_aload_n e_Mod_toTune_0 rfl ?_
  refine pw_iconst (v := nI 0) e_Mod_toTune_1 (by decide) ?_
  refine pw_putGi (i := 0) (ps := 18) (x := 0) e_Mod_toTune_2 fp_Mod_159 hnd (mo_x _ _) rfl (Nat.le_of_ble_eq_true rfl) rfl rfl (fun _ _ => rfl) ?_
  refine pw_aload_n e_Mod_toTune_5 rfl ?_
  refine pw_iload_n e_Mod_toTune_6 rfl ?_
  refine pw_detV (As := [.int (x)]) e_Mod_toTune_7 li_Mod_397 rfl (gO_get hnd (i := 0) rfl) (q_Mod_isBlock hst hnd x (u2 Z 100 18 0) (gO_in hnd (fun _ z => z)) (wfM.u100 (i := 18) hw (by decide))) rfl (by decide) (Nat.le_of_ble_eq_true rfl) rfl ?_
  refine pw_sameG hnd ?_
  refine pw_if_eq (tgt := 70) e_Mod_toTune_10 (by decide) (fun (H1 : ((f_Mod_isBlock x (u2 Z 100 18 0)).1) = 0) => ?_) (fun (H1 : ¬ ((f_Mod_isBlock x (u2 Z 100 18 0)).1) = 0) => ?_)
  · refine pw_iconst (v := nI 0) e_Mod_toTune_70 (by decide) ?_
    refine pw_iret e_Mod_toTune_71 rfl rfl ?_
    rw [f_Mod_toTune, if_pos H1] at hk
    exact hk
  · refine pw_eqls (ls' := [.ref (A 100), .int (nI (x.toNatClampNeg)), .int (y), .int (z), .retAddr 0, .retAddr 0]) (by rw [← (show x = nI (x.toNatClampNeg) from (ib10 (wfM.of (Q := u2 Z 100 18 0) hw rfl rfl rfl rfl rfl rfl rfl rfl rfl rfl rfl rfl) H1).1)]) ?_
    refine w_Mod_toTune_13 hst hnd x y z ((f_Mod_isBlock x (u2 Z 100 18 0)).2) x.toNatClampNeg (z_isBlock (wfM.u100 (i := 18) hw (by decide))) (ib10 (wfM.of (Q := u2 Z 100 18 0) hw rfl rfl rfl rfl rfl rfl rfl rfl rfl rfl rfl rfl) H1).2 ?_
    rw [f_Mod_toTune, if_neg H1] at hk
    exact hk
theorem q_Mod_toTune {g : GG} {h : Hp} (hst : (gl g).stackTraces = false) {A : Nat → Nat} (hnd : (gK (moL g A)).Nodup) (x : Int32) (y : Int32) (z : Int32)  (Z : Nat → Nat → Int32) (hm : ∀ q ∈ gO (moL g A) Z, h q.1 = some q.2) (hw : wfM Z) : PM g M_Mod_toTune 7 0 0 [.ref (A 100), .int (x), .int (y), .int (z)] h (RetV (some (.int (f_Mod_toTune x y z Z).1)) (ov h (gO (moL g A) ((f_Mod_toTune x y z Z).2)))) := by
  refine PM.of hst (by decide) rfl (fun v hv => ?_) (Nat.le_of_ble_eq_true rfl) ?_
  · simp only [List.mem_cons, List.not_mem_nil, or_false] at hv; rcases hv with rfl | rfl | rfl | rfl <;> rfl
  · have hq := w_Mod_toTune_0 (g := g) (Q := RetV (some (.int (f_Mod_toTune x y z Z).1)) (ov h (gO (moL g A) ((f_Mod_toTune x y z Z).2)))) (h := h) (kc := 0) (ks := 0) hst hnd x y z Z hw ?_
    · rw [ov_self hm] at hq; exact hq
    · exact ⟨rfl, rfl⟩

def f_Mod_note_53 (x : Int32) (y : Int32) (z : Int32) (Z : Nat → Nat → Int32) : Int32 × (Nat → Nat → Int32) :=
  (nI ((pN Z 100 26) + 1), u2 (u2 (u2 (u2 Z 14 (pN Z 100 26) x) 15 (pN Z 100 26) y) 16 (pN Z 100 26) z) 100 26 (nI ((pN Z 100 26) + 1)))
set_option maxRecDepth 4000 in
theorem w_Mod_note_53 {g : GG} {Q : QT} {h : Hp} {kc ks : Nat} (hst : (gl g).stackTraces = false) {A : Nat → Nat} (hnd : (gK (moL g A)).Nodup) (x : Int32) (y : Int32) (z : Int32)  (Z : Nat → Nat → Int32) (hw : wfM Z) (hN : NtM Z) (hn5 : pN Z 100 26 < 6) (hk : Q (.inl (some (.int (f_Mod_note_53 x y z Z).1))) (ov h (gO (moL g A) ((f_Mod_note_53 x y z Z).2)))) : PW g M_Mod_note 2 kc ks Q 53 [.ref (A 100), .int (x), .int (y), .int (z)] [] (ov h (gO (moL g A) Z)) := by
  have hn6 := hN.1.2
  have hz0 := hw.blk.2
  have hz1 := hw.lnk.2
  have hz2 := hw.dvs.2
  refine pw_aload_n e_Mod_note_53 rfl ?_
  refine pw_getf e_Mod_note_54 fl_Mod_52 (gO_get hnd (i := 0) rfl) rfl ?_
  refine pw_aload_n e_Mod_note_57 rfl ?_
  refine pw_getf e_Mod_note_58 fl_Mod_388 (gO_get hnd (i := 0) rfl) rfl ?_
  refine pw_eqst (congrArg (fun q => Value.int q :: [.ref (A 14)]) (show _ = nI (pN Z 100 26) from hN.1.1)) ?_
  refine pw_iload_n e_Mod_note_61 rfl ?_
  refine pw_iastG (i := 15) e_Mod_note_62 hnd (mo_x _ _) rfl (by omega) (by decide) ?_
  refine pw_aload_n e_Mod_note_63 rfl ?_
  refine pw_getf e_Mod_note_64 fl_Mod_55 (gO_get hnd (i := 0) rfl) rfl ?_
  refine pw_aload_n e_Mod_note_67 rfl ?_
  refine pw_getf e_Mod_note_68 fl_Mod_388 (gO_get hnd (i := 0) rfl) rfl ?_
  refine pw_eqst (congrArg (fun q => Value.int q :: [.ref (A 15)]) (show _ = nI (pN Z 100 26) from (u2_o (by decide) hN.1.1))) ?_
  refine pw_iload_n e_Mod_note_71 rfl ?_
  refine pw_iastG (i := 16) e_Mod_note_72 hnd (mo_x _ _) rfl (by omega) (by decide) ?_
  refine pw_aload_n e_Mod_note_73 rfl ?_
  refine pw_getf e_Mod_note_74 fl_Mod_58 (gO_get hnd (i := 0) rfl) rfl ?_
  refine pw_aload_n e_Mod_note_77 rfl ?_
  refine pw_getf e_Mod_note_78 fl_Mod_388 (gO_get hnd (i := 0) rfl) rfl ?_
  refine pw_eqst (congrArg (fun q => Value.int q :: [.ref (A 16)]) (show _ = nI (pN Z 100 26) from (u2_o (by decide) (u2_o (by decide) hN.1.1)))) ?_
  refine pw_iload_n e_Mod_note_81 rfl ?_
  refine pw_iastG (i := 17) e_Mod_note_82 hnd (mo_x _ _) rfl (by omega) (by decide) ?_
  refine pw_aload_n e_Mod_note_83 rfl ?_
  refine pw_dup e_Mod_note_84 rfl ?_
  refine pw_getf e_Mod_note_85 fl_Mod_388 (gO_get hnd (i := 0) rfl) rfl ?_
  refine pw_eqst (congrArg (fun q => Value.int q :: [.ref (A 100)]) (show _ = nI (pN Z 100 26) from (u2_o (by decide) (u2_o (by decide) (u2_o (by decide) hN.1.1))))) ?_
  refine pw_iconst (v := nI 1) e_Mod_note_88 (by decide) ?_
  refine pw_iaddN e_Mod_note_89 ?_
  refine pw_putGi (i := 0) (ps := 26) (x := nI ((pN Z 100 26) + 1)) e_Mod_note_90 fp_Mod_388 hnd (mo_x _ _) rfl (Nat.le_of_ble_eq_true rfl) rfl rfl (fun _ _ => rfl) ?_
  refine pw_aload_n e_Mod_note_93 rfl ?_
  refine pw_getf e_Mod_note_94 fl_Mod_388 (gO_get hnd (i := 0) rfl) rfl ?_
  refine pw_eqst (congrArg (fun q => Value.int q :: []) (show _ = nI ((pN Z 100 26) + 1) from u2_s)) ?_
  refine pw_iret e_Mod_note_97 rfl rfl ?_
  rw [f_Mod_note_53] at hk
  exact hk
def f_Mod_note_47 (x : Int32) (y : Int32) (z : Int32) (Z : Nat → Nat → Int32) : Int32 × (Nat → Nat → Int32) :=
  ((f_Mod_refuses 2 Z).1, (f_Mod_refuses 2 Z).2)
set_option maxRecDepth 4000 in
theorem w_Mod_note_47 {g : GG} {Q : QT} {h : Hp} {kc ks : Nat} (hst : (gl g).stackTraces = false) {A : Nat → Nat} (hnd : (gK (moL g A)).Nodup) (x : Int32) (y : Int32) (z : Int32)  (Z : Nat → Nat → Int32) (hw : wfM Z) (hk : Q (.inl (some (.int (f_Mod_note_47 x y z Z).1))) (ov h (gO (moL g A) ((f_Mod_note_47 x y z Z).2)))) : PW g M_Mod_note 2 kc ks Q 47 [.ref (A 100), .int (x), .int (y), .int (z)] [] (ov h (gO (moL g A) Z)) := by
  have hz0 := hw.blk.2
  have hz1 := hw.lnk.2
  have hz2 := hw.dvs.2
  refine pw_aload_n e_Mod_note_47 rfl ?_
  refine pw_iconst (v := nI 2) e_Mod_note_48 (by decide) ?_
  refine pw_detV (As := [.int (nI (2))]) e_Mod_note_49 li_Mod_413 rfl (gO_get hnd (i := 0) rfl) (q_Mod_refuses hst hnd 2 (by decide) Z (gO_in hnd (fun _ z => z)) hw) rfl (by decide) (Nat.le_of_ble_eq_true rfl) rfl ?_
  refine pw_sameG hnd ?_
  refine pw_iret e_Mod_note_52 rfl rfl ?_
  rw [f_Mod_note_47] at hk
  exact hk
def f_Mod_note (x : Int32) (y : Int32) (z : Int32) (Z : Nat → Nat → Int32) : Int32 × (Nat → Nat → Int32) :=
  if (pN Z 100 26) = 6 then f_Mod_note_47 x y z (u2 Z 100 18 0) else if (f_Mod_within x (nI 0) ((nI (pN Z 100 20)) - 1)) = 0 then f_Mod_note_47 x y z (u2 Z 100 18 0) else if (f_Mod_within y (nI 1) (nI 20)) = 0 then f_Mod_note_47 x y z (u2 Z 100 18 0) else if (f_Mod_within z (nI 0) (nI 3)) = 0 then f_Mod_note_47 x y z (u2 Z 100 18 0) else f_Mod_note_53 x y z (u2 Z 100 18 0)
set_option maxRecDepth 4000 in
theorem w_Mod_note_0 {g : GG} {Q : QT} {h : Hp} {kc ks : Nat} (hst : (gl g).stackTraces = false) {A : Nat → Nat} (hnd : (gK (moL g A)).Nodup) (x : Int32) (y : Int32) (z : Int32)  (Z : Nat → Nat → Int32) (hw : wfM Z) (hN : NtM Z) (hk : Q (.inl (some (.int (f_Mod_note x y z Z).1))) (ov h (gO (moL g A) ((f_Mod_note x y z Z).2)))) : PW g M_Mod_note 2 kc ks Q 0 [.ref (A 100), .int (x), .int (y), .int (z)] [] (ov h (gO (moL g A) Z)) := by
  have hn6 := hN.1.2
  have hz0 := hw.blk.2
  have hz1 := hw.lnk.2
  have hz2 := hw.dvs.2
  refine pw_aload_n e_Mod_note_0 rfl ?_
  refine pw_iconst (v := nI 0) e_Mod_note_1 (by decide) ?_
  refine pw_putGi (i := 0) (ps := 18) (x := 0) e_Mod_note_2 fp_Mod_159 hnd (mo_x _ _) rfl (Nat.le_of_ble_eq_true rfl) rfl rfl (fun _ _ => rfl) ?_
  refine pw_aload_n e_Mod_note_5 rfl ?_
  refine pw_getf e_Mod_note_6 fl_Mod_388 (gO_get hnd (i := 0) rfl) rfl ?_
  refine pw_eqst (congrArg (fun q => Value.int q :: []) (show _ = nI (pN Z 100 26) from (u2_i (by decide) hN.1.1))) ?_
  refine pw_bipush (v := nI 6) e_Mod_note_9 (by decide) ?_
  refine pw_icmp_eqN (tgt := 47) e_Mod_note_11 (by decide) (by omega) (by omega) (fun (H1 : (pN Z 100 26) = 6) => ?_) (fun (H1 : ¬ (pN Z 100 26) = 6) => ?_)
  · refine w_Mod_note_47 hst hnd x y z (u2 Z 100 18 0) (wfM.u100 (i := 18) hw (by decide)) ?_
    rw [f_Mod_note, if_pos H1] at hk
    exact hk
  · refine pw_iload_n e_Mod_note_14 rfl ?_
    refine pw_iconst (v := nI 0) e_Mod_note_15 (by decide) ?_
    refine pw_aload_n e_Mod_note_16 rfl ?_
    refine pw_getf e_Mod_note_17 fl_Mod_183 (gO_get hnd (i := 0) rfl) rfl ?_
    rw [show (u2 Z 100 18 0) 100 20 = nI (pN Z 100 20) from hw.blk.1]
    refine pw_iconst (v := nI 1) e_Mod_note_20 (by decide) ?_
    refine pw_isub e_Mod_note_21 ?_
    refine pw_detS (As := [.int (x), .int (nI (0)), .int ((nI (pN Z 100 20)) - 1)]) e_Mod_note_22 li_Mod_312 (q_Mod_within hst x (nI 0) ((nI (pN Z 100 20)) - 1)) rfl (by decide) (Nat.le_of_ble_eq_true rfl) rfl ?_
    refine pw_if_eq (tgt := 47) e_Mod_note_25 (by decide) (fun (H2 : (f_Mod_within x (nI 0) ((nI (pN Z 100 20)) - 1)) = 0) => ?_) (fun (H2 : ¬ (f_Mod_within x (nI 0) ((nI (pN Z 100 20)) - 1)) = 0) => ?_)
    · refine w_Mod_note_47 hst hnd x y z (u2 Z 100 18 0) (wfM.u100 (i := 18) hw (by decide)) ?_
      rw [f_Mod_note, if_neg H1, if_pos H2] at hk
      exact hk
    · refine pw_iload_n e_Mod_note_28 rfl ?_
      refine pw_iconst (v := nI 1) e_Mod_note_29 (by decide) ?_
      refine pw_bipush (v := nI 20) e_Mod_note_30 (by decide) ?_
      refine pw_detS (As := [.int (y), .int (nI (1)), .int (nI (20))]) e_Mod_note_32 li_Mod_312 (q_Mod_within hst y (nI 1) (nI 20)) rfl (by decide) (Nat.le_of_ble_eq_true rfl) rfl ?_
      refine pw_if_eq (tgt := 47) e_Mod_note_35 (by decide) (fun (H3 : (f_Mod_within y (nI 1) (nI 20)) = 0) => ?_) (fun (H3 : ¬ (f_Mod_within y (nI 1) (nI 20)) = 0) => ?_)
      · refine w_Mod_note_47 hst hnd x y z (u2 Z 100 18 0) (wfM.u100 (i := 18) hw (by decide)) ?_
        rw [f_Mod_note, if_neg H1, if_neg H2, if_pos H3] at hk
        exact hk
      · refine pw_iload_n e_Mod_note_38 rfl ?_
        refine pw_iconst (v := nI 0) e_Mod_note_39 (by decide) ?_
        refine pw_iconst (v := nI 3) e_Mod_note_40 (by decide) ?_
        refine pw_detS (As := [.int (z), .int (nI (0)), .int (nI (3))]) e_Mod_note_41 li_Mod_312 (q_Mod_within hst z (nI 0) (nI 3)) rfl (by decide) (Nat.le_of_ble_eq_true rfl) rfl ?_
        refine pw_if_ne (tgt := 53) e_Mod_note_44 (by decide) (fun (H4 : ¬ (f_Mod_within z (nI 0) (nI 3)) = 0) => ?_) (fun (H4 : (f_Mod_within z (nI 0) (nI 3)) = 0) => ?_)
        · refine w_Mod_note_53 hst hnd x y z (u2 Z 100 18 0) (wfM.u100 (i := 18) hw (by decide)) (hN.of rfl rfl) (by show pN Z 100 26 < 6; omega) ?_
          rw [f_Mod_note, if_neg H1, if_neg H2, if_neg H3, if_neg H4] at hk
          exact hk
        · refine w_Mod_note_47 hst hnd x y z (u2 Z 100 18 0) (wfM.u100 (i := 18) hw (by decide)) ?_
          rw [f_Mod_note, if_neg H1, if_neg H2, if_neg H3, if_pos H4] at hk
          exact hk
theorem q_Mod_note {g : GG} {h : Hp} (hst : (gl g).stackTraces = false) {A : Nat → Nat} (hnd : (gK (moL g A)).Nodup) (x : Int32) (y : Int32) (z : Int32)  (Z : Nat → Nat → Int32) (hm : ∀ q ∈ gO (moL g A) Z, h q.1 = some q.2) (hw : wfM Z) (hN : NtM Z) : PM g M_Mod_note 2 0 0 [.ref (A 100), .int (x), .int (y), .int (z)] h (RetV (some (.int (f_Mod_note x y z Z).1)) (ov h (gO (moL g A) ((f_Mod_note x y z Z).2)))) := by
  refine PM.of hst (by decide) rfl (fun v hv => ?_) (Nat.le_of_ble_eq_true rfl) ?_
  · simp only [List.mem_cons, List.not_mem_nil, or_false] at hv; rcases hv with rfl | rfl | rfl | rfl <;> rfl
  · have hq := w_Mod_note_0 (g := g) (Q := RetV (some (.int (f_Mod_note x y z Z).1)) (ov h (gO (moL g A) ((f_Mod_note x y z Z).2)))) (h := h) (kc := 0) (ks := 0) hst hnd x y z Z hw hN ?_
    · rw [ov_self hm] at hq; exact hq
    · exact ⟨rfl, rfl⟩

def f_Mod_hasInput_2 (s : Nat) : Nat → (Nat → Nat → Int32) → (Nat) → Int32
  | 0, _, _ => 0
  | t + 1, Z, b => if (pN Z 100 20) ≤ b then 0 else if (pN Z 3 b) = 0 then if (pN Z 4 b) = s then 1 else f_Mod_hasInput_2 s t Z (b + 1) else f_Mod_hasInput_2 s t Z (b + 1)
set_option maxRecDepth 4000 in
theorem w_Mod_hasInput_2 {g : GG} {Q : QT} {h : Hp} {kc ks : Nat} (hst : (gl g).stackTraces = false) {A : Nat → Nat} (hnd : (gK (moL g A)).Nodup) (s : Nat) (hs : s < 4)  (t : Nat) : ∀ (Z : Nat → Nat → Int32) (b : Nat) (hw : wfM Z) (hb9 : b ≤ 10) (hlt : 10 - b < t) (hk : Q (.inl (some (.int (f_Mod_hasInput_2 s t Z b)))) (ov h (gO (moL g A) Z))), PW g M_Mod_hasInput 0 kc ks Q 2 [.ref (A 100), .int (nI (s)), .int (nI (b))] [] (ov h (gO (moL g A) Z)) := by
  induction t with
  | zero => intro Z b hw hb9 hlt _; exact absurd hlt (Nat.not_lt_zero _)
  | succ t ih =>
    intro Z b hw hb9 hlt hk
    have hz0 := hw.blk.2
    have hz1 := hw.lnk.2
    have hz2 := hw.dvs.2
    refine pw_iload_n e_Mod_hasInput_2 rfl ?_
    refine pw_aload_n e_Mod_hasInput_3 rfl ?_
    refine pw_getf e_Mod_hasInput_4 fl_Mod_183 (gO_get hnd (i := 0) rfl) rfl ?_
    rw [show Z 100 20 = nI (pN Z 100 20) from hw.blk.1]
    refine pw_icmp_geN (tgt := 37) e_Mod_hasInput_7 (by decide) (by omega) (by omega) (fun (H1 : (pN Z 100 20) ≤ b) => ?_) (fun (H1 : b < (pN Z 100 20)) => ?_)
    · refine pw_iconst (v := nI 0) e_Mod_hasInput_37 (by decide) ?_
      refine pw_iret e_Mod_hasInput_38 rfl (by decide) ?_
      rw [f_Mod_hasInput_2, if_pos H1] at hk
      exact hk
    · refine pw_aload_n e_Mod_hasInput_10 rfl ?_
      refine pw_getf e_Mod_hasInput_11 fl_Mod_19 (gO_get hnd (i := 0) rfl) rfl ?_
      refine pw_iload_n e_Mod_hasInput_14 rfl ?_
      have hb2 := hw.kind b
      refine pw_ialdC e_Mod_hasInput_15 (gO_get hnd (i := 4) rfl) (by omega) (by decide) hb2.1 ?_
      replace hb2 := hb2.2
      refine pw_if_neN (tgt := 31) e_Mod_hasInput_16 (by decide) (by omega) (fun (H3 : ¬ (pN Z 3 b) = 0) => ?_) (fun (H3 : (pN Z 3 b) = 0) => ?_)
      · refine pw_iincN (ls2 := [_, _, _]) e_Mod_hasInput_31 rfl (by decide) rfl ?_
        refine pw_goto (tgt := 2) e_Mod_hasInput_34 (by decide) ?_
        refine ih Z (b + 1) hw (by omega) (by omega) ?_
        rw [f_Mod_hasInput_2, if_neg (Nat.not_le.mpr H1), if_neg H3] at hk
        exact hk
      · refine pw_aload_n e_Mod_hasInput_19 rfl ?_
        refine pw_getf e_Mod_hasInput_20 fl_Mod_22 (gO_get hnd (i := 0) rfl) rfl ?_
        refine pw_iload_n e_Mod_hasInput_23 rfl ?_
        have hb4 := hw.one b
        refine pw_ialdC e_Mod_hasInput_24 (gO_get hnd (i := 5) rfl) (by omega) (by decide) hb4.1 ?_
        replace hb4 := hb4.2
        refine pw_iload_n e_Mod_hasInput_25 rfl ?_
        refine pw_icmp_neN (tgt := 31) e_Mod_hasInput_26 (by decide) (by omega) (by omega) (fun (H5 : ¬ (pN Z 4 b) = s) => ?_) (fun (H5 : (pN Z 4 b) = s) => ?_)
        · refine pw_iincN (ls2 := [_, _, _]) e_Mod_hasInput_31 rfl (by decide) rfl ?_
          refine pw_goto (tgt := 2) e_Mod_hasInput_34 (by decide) ?_
          refine ih Z (b + 1) hw (by omega) (by omega) ?_
          rw [f_Mod_hasInput_2, if_neg (Nat.not_le.mpr H1), if_pos H3, if_neg H5] at hk
          exact hk
        · refine pw_iconst (v := nI 1) e_Mod_hasInput_29 (by decide) ?_
          refine pw_iret e_Mod_hasInput_30 rfl (by decide) ?_
          rw [f_Mod_hasInput_2, if_neg (Nat.not_le.mpr H1), if_pos H3, if_pos H5] at hk
          exact hk
def f_Mod_hasInput (s : Nat) (Z : Nat → Nat → Int32) : Int32 :=
  f_Mod_hasInput_2 s 11 Z 0
set_option maxRecDepth 4000 in
theorem w_Mod_hasInput_0 {g : GG} {Q : QT} {h : Hp} {kc ks : Nat} (hst : (gl g).stackTraces = false) {A : Nat → Nat} (hnd : (gK (moL g A)).Nodup) (s : Nat) (hs : s < 4)  (Z : Nat → Nat → Int32) (hw : wfM Z) (hk : Q (.inl (some (.int (f_Mod_hasInput s Z)))) (ov h (gO (moL g A) Z))) : PW g M_Mod_hasInput 0 kc ks Q 0 [.ref (A 100), .int (nI (s)), .retAddr 0] [] (ov h (gO (moL g A) Z)) := by
  have hz0 := hw.blk.2
  have hz1 := hw.lnk.2
  have hz2 := hw.dvs.2
  refine pw_iconst (v := nI 0) e_Mod_hasInput_0 (by decide) ?_
  refine pw_istore_n (ls2 := [_, _, _]) e_Mod_hasInput_1 (by decide) rfl ?_
  refine w_Mod_hasInput_2 hst hnd s hs 11 Z 0 hw (by omega) (by omega) ?_
  rw [f_Mod_hasInput] at hk
  exact hk
theorem q_Mod_hasInput {g : GG} {h : Hp} (hst : (gl g).stackTraces = false) {A : Nat → Nat} (hnd : (gK (moL g A)).Nodup) (s : Nat) (hs : s < 4)  (Z : Nat → Nat → Int32) (hm : ∀ q ∈ gO (moL g A) Z, h q.1 = some q.2) (hw : wfM Z) : PM g M_Mod_hasInput 0 0 0 [.ref (A 100), .int (nI (s))] h (RetV (some (.int (f_Mod_hasInput s Z))) h) := by
  refine PM.of hst (by decide) rfl (fun v hv => ?_) (Nat.le_of_ble_eq_true rfl) ?_
  · simp only [List.mem_cons, List.not_mem_nil, or_false] at hv; rcases hv with rfl | rfl <;> rfl
  · have hq := w_Mod_hasInput_0 (g := g) (Q := RetV (some (.int (f_Mod_hasInput s Z))) h) (h := h) (kc := 0) (ks := 0) hst hnd s hs Z hw ?_
    · rw [ov_self hm] at hq; exact hq
    · exact ⟨rfl, ov_self hm⟩

def f_Mod_isCause (c : Nat) (Z : Nat → Nat → Int32) : Int32 :=
  if c = 0 then 1 else if 6 ≤ c then if ((((Z 0) 204) >>> ((nI (c - 6)) &&& 31)) &&& 1) = 0 then if (f_Mod_hasInput (c - 6) Z) = 0 then 0 else 1 else 0 else if (pN Z 100 19) ≤ (c - 1) then 0 else if (f_Mod_isOn Z 0 (c - 1) (Z 0)) = 0 then 0 else 1
set_option maxRecDepth 4000 in
theorem w_Mod_isCause_0 {g : GG} {Q : QT} {h : Hp} {kc ks : Nat} (hst : (gl g).stackTraces = false) {A : Nat → Nat} (hnd : (gK (moL g A)).Nodup) (c : Nat) (hc : c < 10)  (Z : Nat → Nat → Int32) (hw : wfM Z) (hk : Q (.inl (some (.int (f_Mod_isCause c Z)))) (ov h (gO (moL g A) Z))) : PW g M_Mod_isCause 2 kc ks Q 0 [.ref (A 100), .int (nI (c))] [] (ov h (gO (moL g A) Z)) := by
  have hz0 := hw.blk.2
  have hz1 := hw.lnk.2
  have hz2 := hw.dvs.2
  refine pw_iload_n e_Mod_isCause_0 rfl ?_
  refine pw_if_neN (tgt := 6) e_Mod_isCause_1 (by decide) (by omega) (fun (H1 : ¬ c = 0) => ?_) (fun (H1 : c = 0) => ?_)
  · refine pw_iload_n e_Mod_isCause_6 rfl ?_
    refine pw_bipush (v := nI 6) e_Mod_isCause_7 (by decide) ?_
    refine pw_icmp_geN (tgt := 39) e_Mod_isCause_9 (by decide) (by omega) (by omega) (fun (H2 : 6 ≤ c) => ?_) (fun (H2 : c < 6) => ?_)
    · refine pw_aload_n e_Mod_isCause_39 rfl ?_
      refine pw_getf e_Mod_isCause_40 fl_Mod_9 (gO_get hnd (i := 0) rfl) rfl ?_
      refine pw_sipush (v := nI 204) e_Mod_isCause_43 (by decide) ?_
      refine pw_ialdN e_Mod_isCause_46 (gO_get hnd (i := 1) rfl) (by omega) (by decide) ?_
      refine pw_iload_n e_Mod_isCause_47 rfl ?_
      refine pw_bipush (v := nI 6) e_Mod_isCause_48 (by decide) ?_
      refine pw_isubN (by omega) e_Mod_isCause_50 ?_
      refine pw_ishr e_Mod_isCause_51 ?_
      refine pw_iconst (v := nI 1) e_Mod_isCause_52 (by decide) ?_
      refine pw_iand e_Mod_isCause_53 ?_
      refine pw_if_ne (tgt := 72) e_Mod_isCause_54 (by decide) (fun (H3 : ¬ ((((Z 0) 204) >>> ((nI (c - 6)) &&& 31)) &&& 1) = 0) => ?_) (fun (H3 : ((((Z 0) 204) >>> ((nI (c - 6)) &&& 31)) &&& 1) = 0) => ?_)
      · refine pw_iconst (v := nI 0) e_Mod_isCause_72 (by decide) ?_
        refine pw_iret e_Mod_isCause_73 rfl (by decide) ?_
        rw [f_Mod_isCause, if_neg H1, if_pos H2, if_neg H3] at hk
        exact hk
      · refine pw_aload_n e_Mod_isCause_57 rfl ?_
        refine pw_iload_n e_Mod_isCause_58 rfl ?_
        refine pw_bipush (v := nI 6) e_Mod_isCause_59 (by decide) ?_
        refine pw_isubN (by omega) e_Mod_isCause_61 ?_
        refine pw_detV (As := [.int (nI (c - 6))]) e_Mod_isCause_62 li_Mod_444 rfl (gO_get hnd (i := 0) rfl) (q_Mod_hasInput hst hnd (c - 6) (by omega) Z (gO_in hnd (fun _ z => z)) hw) rfl (by decide) (Nat.le_of_ble_eq_true rfl) rfl ?_
        refine pw_if_eq (tgt := 72) e_Mod_isCause_65 (by decide) (fun (H4 : (f_Mod_hasInput (c - 6) Z) = 0) => ?_) (fun (H4 : ¬ (f_Mod_hasInput (c - 6) Z) = 0) => ?_)
        · refine pw_iconst (v := nI 0) e_Mod_isCause_72 (by decide) ?_
          refine pw_iret e_Mod_isCause_73 rfl (by decide) ?_
          rw [f_Mod_isCause, if_neg H1, if_pos H2, if_pos H3, if_pos H4] at hk
          exact hk
        · refine pw_iconst (v := nI 1) e_Mod_isCause_68 (by decide) ?_
          refine pw_goto (tgt := 73) e_Mod_isCause_69 (by decide) ?_
          refine pw_iret e_Mod_isCause_73 rfl (by decide) ?_
          rw [f_Mod_isCause, if_neg H1, if_pos H2, if_pos H3, if_neg H4] at hk
          exact hk
    · refine pw_iload_n e_Mod_isCause_12 rfl ?_
      refine pw_iconst (v := nI 1) e_Mod_isCause_13 (by decide) ?_
      refine pw_isubN (by omega) e_Mod_isCause_14 ?_
      refine pw_aload_n e_Mod_isCause_15 rfl ?_
      refine pw_getf e_Mod_isCause_16 fl_Mod_64 (gO_get hnd (i := 0) rfl) rfl ?_
      rw [show Z 100 19 = nI (pN Z 100 19) from hw.dvs.1]
      refine pw_icmp_geN (tgt := 37) e_Mod_isCause_19 (by decide) (by omega) (by omega) (fun (H5 : (pN Z 100 19) ≤ (c - 1)) => ?_) (fun (H5 : (c - 1) < (pN Z 100 19)) => ?_)
      · refine pw_iconst (v := nI 0) e_Mod_isCause_37 (by decide) ?_
        refine pw_iret e_Mod_isCause_38 rfl (by decide) ?_
        rw [f_Mod_isCause, if_neg H1, if_neg (Nat.not_le.mpr H2), if_pos H5] at hk
        exact hk
      · refine pw_aload_n e_Mod_isCause_22 rfl ?_
        refine pw_iconst (v := nI 0) e_Mod_isCause_23 (by decide) ?_
        refine pw_iload_n e_Mod_isCause_24 rfl ?_
        refine pw_iconst (v := nI 1) e_Mod_isCause_25 (by decide) ?_
        refine pw_isubN (by omega) e_Mod_isCause_26 ?_
        refine pw_detV (As := [.int (nI (0)), .int (nI (c - 1))]) e_Mod_isCause_27 li_Mod_205 rfl (gO_get hnd (i := 0) rfl) (q_Mod_isOn hst (mo_at hnd) hw 0 (c - 1) (by omega) (Z 0) (gO_get hnd (i := 1) rfl)) rfl (by decide) (Nat.le_of_ble_eq_true rfl) rfl ?_
        refine pw_if_eq (tgt := 37) e_Mod_isCause_30 (by decide) (fun (H6 : (f_Mod_isOn Z 0 (c - 1) (Z 0)) = 0) => ?_) (fun (H6 : ¬ (f_Mod_isOn Z 0 (c - 1) (Z 0)) = 0) => ?_)
        · refine pw_iconst (v := nI 0) e_Mod_isCause_37 (by decide) ?_
          refine pw_iret e_Mod_isCause_38 rfl (by decide) ?_
          rw [f_Mod_isCause, if_neg H1, if_neg (Nat.not_le.mpr H2), if_neg (Nat.not_le.mpr H5), if_pos H6] at hk
          exact hk
        · refine pw_iconst (v := nI 1) e_Mod_isCause_33 (by decide) ?_
          refine pw_goto (tgt := 38) e_Mod_isCause_34 (by decide) ?_
          refine pw_iret e_Mod_isCause_38 rfl (by decide) ?_
          rw [f_Mod_isCause, if_neg H1, if_neg (Nat.not_le.mpr H2), if_neg (Nat.not_le.mpr H5), if_neg H6] at hk
          exact hk
  · refine pw_iconst (v := nI 1) e_Mod_isCause_4 (by decide) ?_
    refine pw_iret e_Mod_isCause_5 rfl (by decide) ?_
    rw [f_Mod_isCause, if_pos H1] at hk
    exact hk
theorem q_Mod_isCause {g : GG} {h : Hp} (hst : (gl g).stackTraces = false) {A : Nat → Nat} (hnd : (gK (moL g A)).Nodup) (c : Nat) (hc : c < 10)  (Z : Nat → Nat → Int32) (hm : ∀ q ∈ gO (moL g A) Z, h q.1 = some q.2) (hw : wfM Z) : PM g M_Mod_isCause 2 0 0 [.ref (A 100), .int (nI (c))] h (RetV (some (.int (f_Mod_isCause c Z))) h) := by
  refine PM.of hst (by decide) rfl (fun v hv => ?_) (Nat.le_of_ble_eq_true rfl) ?_
  · simp only [List.mem_cons, List.not_mem_nil, or_false] at hv; rcases hv with rfl | rfl <;> rfl
  · have hq := w_Mod_isCause_0 (g := g) (Q := RetV (some (.int (f_Mod_isCause c Z))) h) (h := h) (kc := 0) (ks := 0) hst hnd c hc Z hw ?_
    · rw [ov_self hm] at hq; exact hq
    · exact ⟨rfl, ov_self hm⟩

def f_Mod_isNoted_139 (c : Nat) : Nat → (Nat → Nat → Int32) → (Int32) → (Nat) → (Nat) → (Nat → Nat → Int32)
  | 0, Z, _, _, _ => Z
  | t + 1, Z, w, n, b => if (pN Z 100 20) ≤ b then Z else f_Mod_isNoted_139 c t (u2 Z 73 b ((Z 0) ((210 + 8 * b) + 1))) w n (b + 1)
set_option maxRecDepth 4000 in
theorem w_Mod_isNoted_139 {g : GG} {Q : QT} {h : Hp} {kc ks : Nat} (hst : (gl g).stackTraces = false) {A : Nat → Nat} (hnd : (gK (moL g A)).Nodup) (c : Nat) (hc : c < 10)  (t : Nat) : ∀ (Z : Nat → Nat → Int32) (w : Int32) (n : Nat) (b : Nat) (hw : wfM Z) (hn9 : 1 ≤ n ∧ n ≤ 20) (hb9 : b ≤ 10) (hlt : 10 - b < t) (hk : PW g M_Mod_isNoted 6 kc ks Q 176 [.ref (A 100), .int (nI (c)), .int (w), .int (nI (n)), .retAddr 0] [] (ov h (gO (moL g A) (f_Mod_isNoted_139 c t Z w n b)))), PW g M_Mod_isNoted 6 kc ks Q 139 [.ref (A 100), .int (nI (c)), .int (w), .int (nI (n)), .int (nI (b))] [] (ov h (gO (moL g A) Z)) := by
  induction t with
  | zero => intro Z w n b hw hn9 hb9 hlt _; exact absurd hlt (Nat.not_lt_zero _)
  | succ t ih =>
    intro Z w n b hw hn9 hb9 hlt hk
    have hz0 := hw.blk.2
    have hz1 := hw.lnk.2
    have hz2 := hw.dvs.2
    refine pw_iload e_Mod_isNoted_139 rfl ?_
    refine pw_aload_n e_Mod_isNoted_141 rfl ?_
    refine pw_getf e_Mod_isNoted_142 fl_Mod_183 (gO_get hnd (i := 0) rfl) rfl ?_
    rw [show Z 100 20 = nI (pN Z 100 20) from hw.blk.1]
    refine pw_icmp_geN (tgt := 176) e_Mod_isNoted_145 (by decide) (by omega) (by omega) (fun (H1 : (pN Z 100 20) ≤ b) => ?_) (fun (H1 : b < (pN Z 100 20)) => ?_)
    · refine pw_fgt (ls' := [.ref (A 100), .int (nI (c)), .int (w), .int (nI (n)), .retAddr 0]) ⟨Or.inr rfl, Or.inr rfl, Or.inr rfl, Or.inr rfl, Or.inl rfl, trivial⟩ ?_
      rw [f_Mod_isNoted_139, if_pos H1] at hk
      exact hk
    · refine pw_aload_n e_Mod_isNoted_148 rfl ?_
      refine pw_getf e_Mod_isNoted_149 fl_Mod_147 (gO_get hnd (i := 0) rfl) rfl ?_
      refine pw_iload e_Mod_isNoted_152 rfl ?_
      refine pw_aload_n e_Mod_isNoted_154 rfl ?_
      refine pw_getf e_Mod_isNoted_155 fl_Mod_9 (gO_get hnd (i := 0) rfl) rfl ?_
      refine pw_sipush (v := nI 210) e_Mod_isNoted_158 (by decide) ?_
      refine pw_iload e_Mod_isNoted_161 rfl ?_
      refine pw_detS (As := [.int (nI (210)), .int (nI (b))]) e_Mod_isNoted_163 li_Mod_193 (q_at hst 210 b) rfl (by decide) (Nat.le_of_ble_eq_true rfl) rfl ?_
      refine pw_iconst (v := nI 1) e_Mod_isNoted_166 (by decide) ?_
      refine pw_iaddN e_Mod_isNoted_167 ?_
      refine pw_ialdN e_Mod_isNoted_168 (gO_get hnd (i := 1) rfl) (by omega) (by decide) ?_
      refine pw_iastG (i := 41) e_Mod_isNoted_169 hnd (mo_x _ _) rfl (by omega) (by decide) ?_
      refine pw_iincN (ls2 := [_, _, _, _, _]) e_Mod_isNoted_170 rfl (by decide) rfl ?_
      refine pw_goto (tgt := 139) e_Mod_isNoted_173 (by decide) ?_
      refine ih (u2 Z 73 b ((Z 0) ((210 + 8 * b) + 1))) w n (b + 1) (wfM.uk (k := 73) hw (by decide)) (by omega) (by omega) (by omega) ?_
      rw [f_Mod_isNoted_139, if_neg (Nat.not_le.mpr H1)] at hk
      exact hk
theorem z_isNoted_139 {c : Nat} : ∀ (t : Nat) {Z : Nat → Nat → Int32} (w : Int32) (n : Nat) (b : Nat) (h : wfM Z), wfM (f_Mod_isNoted_139 c t Z w n b) := by
  intro t
  induction t with
  | zero => intro Z w n b h; exact h
  | succ t ih =>
    intro Z w n b h
    rw [f_Mod_isNoted_139]
    repeat' split
    all_goals repeat (first | exact h | apply ih | apply wfM.up0 | refine wfM.u100 ?_ (by decide) | refine wfM.uk ?_ (by decide))
theorem n_isNoted_139 {c : Nat} : ∀ (t : Nat) {Z : Nat → Nat → Int32} (w : Int32) (n : Nat) (b : Nat) (h : NtM Z), NtM (f_Mod_isNoted_139 c t Z w n b) := by
  intro t
  induction t with
  | zero => intro Z w n b h; exact h
  | succ t ih =>
    intro Z w n b h
    rw [f_Mod_isNoted_139]
    repeat' split
    all_goals repeat (first | exact h | apply ih | apply NtM.up0 | refine NtM.u100 ?_ (by decide) | refine NtM.uk ?_ (by decide))
def f_Mod_isNoted_64 (c : Nat) : Nat → (Nat → Nat → Int32) → (Int32) → (Nat) → (Nat) → Int32 × (Nat → Nat → Int32)
  | 0, Z, _, _, _ => (0, Z)
  | t + 1, Z, w, n, i => if (pN Z 100 26) ≤ i then (w, Z) else if w = 0 then f_Mod_isNoted_64 c t Z 0 n (i + 1) else if ((Z 15) i) = (nI (n)) then if ((Z 0) ((210 + 8 * (pN Z 14 i)) + 1)) = ((Z 16) i) then f_Mod_isNoted_64 c t Z 1 n (i + 1) else f_Mod_isNoted_64 c t Z 0 n (i + 1) else f_Mod_isNoted_64 c t Z 1 n (i + 1)
set_option maxRecDepth 4000 in
theorem w_Mod_isNoted_64 {g : GG} {Q : QT} {h : Hp} {kc ks : Nat} (hst : (gl g).stackTraces = false) {A : Nat → Nat} (hnd : (gK (moL g A)).Nodup) (c : Nat) (hc : c < 10)  (t : Nat) : ∀ (Z : Nat → Nat → Int32) (w : Int32) (n : Nat) (i : Nat) (hw : wfM Z) (hN : NtM Z) (hn9 : 1 ≤ n ∧ n ≤ 20) (hi9 : i ≤ 6) (hlt : 6 - i < t) (hk : PW g M_Mod_isNoted 6 kc ks Q 130 [.ref (A 100), .int (nI (c)), .int ((f_Mod_isNoted_64 c t Z w n i).1), .int (nI (n)), .retAddr 0] [] (ov h (gO (moL g A) ((f_Mod_isNoted_64 c t Z w n i).2)))), PW g M_Mod_isNoted 6 kc ks Q 64 [.ref (A 100), .int (nI (c)), .int (w), .int (nI (n)), .int (nI (i))] [] (ov h (gO (moL g A) Z)) := by
  induction t with
  | zero => intro Z w n i hw hN hn9 hi9 hlt _; exact absurd hlt (Nat.not_lt_zero _)
  | succ t ih =>
    intro Z w n i hw hN hn9 hi9 hlt hk
    have hn6 := hN.1.2
    have hz0 := hw.blk.2
    have hz1 := hw.lnk.2
    have hz2 := hw.dvs.2
    refine pw_iload e_Mod_isNoted_64 rfl ?_
    refine pw_aload_n e_Mod_isNoted_66 rfl ?_
    refine pw_getf e_Mod_isNoted_67 fl_Mod_388 (gO_get hnd (i := 0) rfl) rfl ?_
    refine pw_eqst (congrArg (fun q => Value.int q :: [.int (nI (i))]) (show _ = nI (pN Z 100 26) from hN.1.1)) ?_
    refine pw_icmp_geN (tgt := 130) e_Mod_isNoted_70 (by decide) (by omega) (by omega) (fun (H1 : (pN Z 100 26) ≤ i) => ?_) (fun (H1 : i < (pN Z 100 26)) => ?_)
    · refine pw_fgt (ls' := [.ref (A 100), .int (nI (c)), .int (w), .int (nI (n)), .retAddr 0]) ⟨Or.inr rfl, Or.inr rfl, Or.inr rfl, Or.inr rfl, Or.inl rfl, trivial⟩ ?_
      rw [f_Mod_isNoted_64, if_pos H1] at hk
      exact hk
    · refine pw_iload_n e_Mod_isNoted_73 rfl ?_
      refine pw_if_eq (tgt := 122) e_Mod_isNoted_74 (by decide) (fun (H2 : w = 0) => ?_) (fun (H2 : ¬ w = 0) => ?_)
      · refine pw_iconst (v := nI 0) e_Mod_isNoted_122 (by decide) ?_
        refine pw_istore_n (ls2 := [_, _, _, _, _]) e_Mod_isNoted_123 (by decide) rfl ?_
        refine pw_iincN (ls2 := [_, _, _, _, _]) e_Mod_isNoted_124 rfl (by decide) rfl ?_
        refine pw_goto (tgt := 64) e_Mod_isNoted_127 (by decide) ?_
        refine ih Z 0 n (i + 1) hw (by repeat (first | exact hN | apply n_isNoted_64 | apply n_isNoted_139 | apply NtM.up0 | refine NtM.u100 ?_ (by decide) | refine NtM.uk ?_ (by decide))) (by omega) (by omega) (by omega) ?_
        rw [f_Mod_isNoted_64, if_neg (Nat.not_le.mpr H1), if_pos H2] at hk
        exact hk
      · refine pw_aload_n e_Mod_isNoted_77 rfl ?_
        refine pw_getf e_Mod_isNoted_78 fl_Mod_55 (gO_get hnd (i := 0) rfl) rfl ?_
        refine pw_iload e_Mod_isNoted_81 rfl ?_
        refine pw_ialdN e_Mod_isNoted_83 (gO_get hnd (i := 16) rfl) (by omega) (by decide) ?_
        refine pw_iload_n e_Mod_isNoted_84 rfl ?_
        refine pw_icmp_ne (tgt := 118) e_Mod_isNoted_85 (by decide) (fun (H3 : ¬ ((Z 15) i) = (nI (n))) => ?_) (fun (H3 : ((Z 15) i) = (nI (n))) => ?_)
        · refine pw_iconst (v := nI 1) e_Mod_isNoted_118 (by decide) ?_
          refine pw_goto (tgt := 123) e_Mod_isNoted_119 (by decide) ?_
          refine pw_istore_n (ls2 := [_, _, _, _, _]) e_Mod_isNoted_123 (by decide) rfl ?_
          refine pw_iincN (ls2 := [_, _, _, _, _]) e_Mod_isNoted_124 rfl (by decide) rfl ?_
          refine pw_goto (tgt := 64) e_Mod_isNoted_127 (by decide) ?_
          refine ih Z 1 n (i + 1) hw (by repeat (first | exact hN | apply n_isNoted_64 | apply n_isNoted_139 | apply NtM.up0 | refine NtM.u100 ?_ (by decide) | refine NtM.uk ?_ (by decide))) (by omega) (by omega) (by omega) ?_
          rw [f_Mod_isNoted_64, if_neg (Nat.not_le.mpr H1), if_neg H2, if_neg H3] at hk
          exact hk
        · refine pw_aload_n e_Mod_isNoted_88 rfl ?_
          refine pw_getf e_Mod_isNoted_89 fl_Mod_9 (gO_get hnd (i := 0) rfl) rfl ?_
          refine pw_sipush (v := nI 210) e_Mod_isNoted_92 (by decide) ?_
          refine pw_aload_n e_Mod_isNoted_95 rfl ?_
          refine pw_getf e_Mod_isNoted_96 fl_Mod_52 (gO_get hnd (i := 0) rfl) rfl ?_
          refine pw_iload e_Mod_isNoted_99 rfl ?_
          have hb4 := hN.2 i (by omega)
          refine pw_ialdC e_Mod_isNoted_101 (gO_get hnd (i := 15) rfl) (by omega) (by decide) hb4.1 ?_
          replace hb4 := hb4.2
          refine pw_detS (As := [.int (nI (210)), .int (nI (pN Z 14 i))]) e_Mod_isNoted_102 li_Mod_193 (q_at hst 210 (pN Z 14 i)) rfl (by decide) (Nat.le_of_ble_eq_true rfl) rfl ?_
          refine pw_iconst (v := nI 1) e_Mod_isNoted_105 (by decide) ?_
          refine pw_iaddN e_Mod_isNoted_106 ?_
          refine pw_ialdN e_Mod_isNoted_107 (gO_get hnd (i := 1) rfl) (by omega) (by decide) ?_
          refine pw_aload_n e_Mod_isNoted_108 rfl ?_
          refine pw_getf e_Mod_isNoted_109 fl_Mod_58 (gO_get hnd (i := 0) rfl) rfl ?_
          refine pw_iload e_Mod_isNoted_112 rfl ?_
          refine pw_ialdN e_Mod_isNoted_114 (gO_get hnd (i := 17) rfl) (by omega) (by decide) ?_
          refine pw_icmp_ne (tgt := 122) e_Mod_isNoted_115 (by decide) (fun (H5 : ¬ ((Z 0) ((210 + 8 * (pN Z 14 i)) + 1)) = ((Z 16) i)) => ?_) (fun (H5 : ((Z 0) ((210 + 8 * (pN Z 14 i)) + 1)) = ((Z 16) i)) => ?_)
          · refine pw_iconst (v := nI 0) e_Mod_isNoted_122 (by decide) ?_
            refine pw_istore_n (ls2 := [_, _, _, _, _]) e_Mod_isNoted_123 (by decide) rfl ?_
            refine pw_iincN (ls2 := [_, _, _, _, _]) e_Mod_isNoted_124 rfl (by decide) rfl ?_
            refine pw_goto (tgt := 64) e_Mod_isNoted_127 (by decide) ?_
            refine ih Z 0 n (i + 1) hw (by repeat (first | exact hN | apply n_isNoted_64 | apply n_isNoted_139 | apply NtM.up0 | refine NtM.u100 ?_ (by decide) | refine NtM.uk ?_ (by decide))) (by omega) (by omega) (by omega) ?_
            rw [f_Mod_isNoted_64, if_neg (Nat.not_le.mpr H1), if_neg H2, if_pos H3, if_neg H5] at hk
            exact hk
          · refine pw_iconst (v := nI 1) e_Mod_isNoted_118 (by decide) ?_
            refine pw_goto (tgt := 123) e_Mod_isNoted_119 (by decide) ?_
            refine pw_istore_n (ls2 := [_, _, _, _, _]) e_Mod_isNoted_123 (by decide) rfl ?_
            refine pw_iincN (ls2 := [_, _, _, _, _]) e_Mod_isNoted_124 rfl (by decide) rfl ?_
            refine pw_goto (tgt := 64) e_Mod_isNoted_127 (by decide) ?_
            refine ih Z 1 n (i + 1) hw (by repeat (first | exact hN | apply n_isNoted_64 | apply n_isNoted_139 | apply NtM.up0 | refine NtM.u100 ?_ (by decide) | refine NtM.uk ?_ (by decide))) (by omega) (by omega) (by omega) ?_
            rw [f_Mod_isNoted_64, if_neg (Nat.not_le.mpr H1), if_neg H2, if_pos H3, if_pos H5] at hk
            exact hk
theorem z_isNoted_64 {c : Nat} : ∀ (t : Nat) {Z : Nat → Nat → Int32} (w : Int32) (n : Nat) (i : Nat) (h : wfM Z), wfM (f_Mod_isNoted_64 c t Z w n i).2 := by
  intro t
  induction t with
  | zero => intro Z w n i h; exact h
  | succ t ih =>
    intro Z w n i h
    rw [f_Mod_isNoted_64]
    repeat' split
    all_goals repeat (first | exact h | apply ih | apply wfM.up0 | refine wfM.u100 ?_ (by decide) | refine wfM.uk ?_ (by decide))
theorem n_isNoted_64 {c : Nat} : ∀ (t : Nat) {Z : Nat → Nat → Int32} (w : Int32) (n : Nat) (i : Nat) (h : NtM Z), NtM (f_Mod_isNoted_64 c t Z w n i).2 := by
  intro t
  induction t with
  | zero => intro Z w n i h; exact h
  | succ t ih =>
    intro Z w n i h
    rw [f_Mod_isNoted_64]
    repeat' split
    all_goals repeat (first | exact h | apply ih | apply NtM.up0 | refine NtM.u100 ?_ (by decide) | refine NtM.uk ?_ (by decide))
theorem b_isNoted_64 {c : Nat} : ∀ (t : Nat) (Z : Nat → Nat → Int32) (w : Int32) (n i : Nat) (h : w = 0 ∨ w = 1), (f_Mod_isNoted_64 c t Z w n i).1 = 0 ∨ (f_Mod_isNoted_64 c t Z w n i).1 = 1 := by
  intro t
  induction t with
  | zero => intro Z w n i h; exact Or.inl rfl
  | succ t ih =>
    intro Z w n i h
    rw [f_Mod_isNoted_64]
    repeat' split
    all_goals first | exact h | exact ih _ _ _ _ (Or.inl rfl) | exact ih _ _ _ _ (Or.inr rfl)
def f_Mod_isNoted_48 (c : Nat) : Nat → (Nat → Nat → Int32) → (Int32) → (Nat) → Int32 × (Nat → Nat → Int32)
  | 0, Z, _, _ => (0, Z)
  | t + 1, Z, w, n => if 20 < n then (w, Z) else if n = 8 then f_Mod_isNoted_48 c t (f_Mod_isNoted_139 c 11 ((f_Mod_isNoted_64 c 7 (va_up Z 0 (f_Mod_cycle Z 210 (Z 0))) w n 0).2) ((f_Mod_isNoted_64 c 7 (va_up Z 0 (f_Mod_cycle Z 210 (Z 0))) w n 0).1) n 0) ((f_Mod_isNoted_64 c 7 (va_up Z 0 (f_Mod_cycle Z 210 (Z 0))) w n 0).1) (n + 1) else f_Mod_isNoted_48 c t ((f_Mod_isNoted_64 c 7 (va_up Z 0 (f_Mod_cycle Z 210 (Z 0))) w n 0).2) ((f_Mod_isNoted_64 c 7 (va_up Z 0 (f_Mod_cycle Z 210 (Z 0))) w n 0).1) (n + 1)
set_option maxRecDepth 4000 in
theorem w_Mod_isNoted_48 {g : GG} {Q : QT} {h : Hp} {kc ks : Nat} (hst : (gl g).stackTraces = false) {A : Nat → Nat} (hnd : (gK (moL g A)).Nodup) (c : Nat) (hc : c < 10)  (t : Nat) : ∀ (Z : Nat → Nat → Int32) (w : Int32) (n : Nat) (hw : wfM Z) (hN : NtM Z) (hB : w = 0 ∨ w = 1) (hn9 : 1 ≤ n ∧ n ≤ 21) (hlt : 21 - n < t) (hk : Q (.inl (some (.int (f_Mod_isNoted_48 c t Z w n).1))) (ov h (gO (moL g A) ((f_Mod_isNoted_48 c t Z w n).2)))), PW g M_Mod_isNoted 6 kc ks Q 48 [.ref (A 100), .int (nI (c)), .int (w), .int (nI (n)), .retAddr 0] [] (ov h (gO (moL g A) Z)) := by
  induction t with
  | zero => intro Z w n hw hN hB hn9 hlt _; exact absurd hlt (Nat.not_lt_zero _)
  | succ t ih =>
    intro Z w n hw hN hB hn9 hlt hk
    have hz0 := hw.blk.2
    have hz1 := hw.lnk.2
    have hz2 := hw.dvs.2
    refine pw_iload_n e_Mod_isNoted_48 rfl ?_
    refine pw_bipush (v := nI 20) e_Mod_isNoted_49 (by decide) ?_
    refine pw_icmp_gtN (tgt := 182) e_Mod_isNoted_51 (by decide) (by omega) (by omega) (fun (H1 : 20 < n) => ?_) (fun (H1 : n ≤ 20) => ?_)
    · refine pw_iload_n e_Mod_isNoted_182 rfl ?_
      refine pw_iret e_Mod_isNoted_183 rfl (bool_nar hB) ?_
      rw [f_Mod_isNoted_48, if_pos H1] at hk
      exact hk
    · refine pw_aload_n e_Mod_isNoted_54 rfl ?_
      refine pw_sipush (v := nI 210) e_Mod_isNoted_55 (by decide) ?_
      refine pw_detV (As := [.int (nI (210))]) e_Mod_isNoted_58 li_Mod_270 rfl (gO_get hnd (i := 0) rfl) (q_Mod_cycle hst (mo_at hnd) hw 210 (by omega) (Z 0) (gO_get hnd (i := 1) rfl)) rfl (by decide) (Nat.le_of_ble_eq_true rfl) rfl ?_
      refine pw_upG (i := 1) hnd (mo_x _ _) rfl rfl ?_
      refine pw_iconst (v := nI 0) e_Mod_isNoted_61 (by decide) ?_
      refine pw_istore (ls2 := [_, _, _, _, _]) e_Mod_isNoted_62 (by decide) rfl ?_
      refine w_Mod_isNoted_64 hst hnd c hc 7 (va_up Z 0 (f_Mod_cycle Z 210 (Z 0))) w n 0 (wfM.up0 hw) (by repeat (first | exact hN | apply n_isNoted_64 | apply n_isNoted_139 | apply NtM.up0 | refine NtM.u100 ?_ (by decide) | refine NtM.uk ?_ (by decide))) (by omega) (by omega) (by omega) ?_
      refine pw_iload_n e_Mod_isNoted_130 rfl ?_
      refine pw_bipush (v := nI 8) e_Mod_isNoted_131 (by decide) ?_
      refine pw_icmp_neN (tgt := 176) e_Mod_isNoted_133 (by decide) (by omega) (by omega) (fun (H2 : ¬ n = 8) => ?_) (fun (H2 : n = 8) => ?_)
      · refine pw_iincN (ls2 := [_, _, _, _, _]) e_Mod_isNoted_176 rfl (by decide) rfl ?_
        refine pw_goto (tgt := 48) e_Mod_isNoted_179 (by decide) ?_
        refine ih ((f_Mod_isNoted_64 c 7 (va_up Z 0 (f_Mod_cycle Z 210 (Z 0))) w n 0).2) ((f_Mod_isNoted_64 c 7 (va_up Z 0 (f_Mod_cycle Z 210 (Z 0))) w n 0).1) (n + 1) (z_isNoted_64 _ _ _ _ (wfM.up0 hw)) (by repeat (first | exact hN | apply n_isNoted_64 | apply n_isNoted_139 | apply NtM.up0 | refine NtM.u100 ?_ (by decide) | refine NtM.uk ?_ (by decide))) (b_isNoted_64 _ _ _ _ _ hB) (by omega) (by omega) ?_
        rw [f_Mod_isNoted_48, if_neg (Nat.not_lt.mpr H1), if_neg H2] at hk
        exact hk
      · refine pw_iconst (v := nI 0) e_Mod_isNoted_136 (by decide) ?_
        refine pw_istore (ls2 := [_, _, _, _, _]) e_Mod_isNoted_137 (by decide) rfl ?_
        refine w_Mod_isNoted_139 hst hnd c hc 11 ((f_Mod_isNoted_64 c 7 (va_up Z 0 (f_Mod_cycle Z 210 (Z 0))) w n 0).2) ((f_Mod_isNoted_64 c 7 (va_up Z 0 (f_Mod_cycle Z 210 (Z 0))) w n 0).1) n 0 (z_isNoted_64 _ _ _ _ (wfM.up0 hw)) (by omega) (by omega) (by omega) ?_
        refine pw_iincN (ls2 := [_, _, _, _, _]) e_Mod_isNoted_176 rfl (by decide) rfl ?_
        refine pw_goto (tgt := 48) e_Mod_isNoted_179 (by decide) ?_
        refine ih (f_Mod_isNoted_139 c 11 ((f_Mod_isNoted_64 c 7 (va_up Z 0 (f_Mod_cycle Z 210 (Z 0))) w n 0).2) ((f_Mod_isNoted_64 c 7 (va_up Z 0 (f_Mod_cycle Z 210 (Z 0))) w n 0).1) n 0) ((f_Mod_isNoted_64 c 7 (va_up Z 0 (f_Mod_cycle Z 210 (Z 0))) w n 0).1) (n + 1) (z_isNoted_139 _ _ _ _ (z_isNoted_64 _ _ _ _ (wfM.up0 hw))) (by repeat (first | exact hN | apply n_isNoted_64 | apply n_isNoted_139 | apply NtM.up0 | refine NtM.u100 ?_ (by decide) | refine NtM.uk ?_ (by decide))) (b_isNoted_64 _ _ _ _ _ hB) (by omega) (by omega) ?_
        rw [f_Mod_isNoted_48, if_neg (Nat.not_lt.mpr H1), if_pos H2] at hk
        exact hk
theorem z_isNoted_48 {c : Nat} : ∀ (t : Nat) {Z : Nat → Nat → Int32} (w : Int32) (n : Nat) (h : wfM Z), wfM (f_Mod_isNoted_48 c t Z w n).2 := by
  intro t
  induction t with
  | zero => intro Z w n h; exact h
  | succ t ih =>
    intro Z w n h
    rw [f_Mod_isNoted_48]
    repeat' split
    all_goals repeat (first | exact h | apply ih | apply z_isNoted_139 | apply z_isNoted_64 | apply wfM.up0 | refine wfM.u100 ?_ (by decide) | refine wfM.uk ?_ (by decide))
theorem n_isNoted_48 {c : Nat} : ∀ (t : Nat) {Z : Nat → Nat → Int32} (w : Int32) (n : Nat) (h : NtM Z), NtM (f_Mod_isNoted_48 c t Z w n).2 := by
  intro t
  induction t with
  | zero => intro Z w n h; exact h
  | succ t ih =>
    intro Z w n h
    rw [f_Mod_isNoted_48]
    repeat' split
    all_goals repeat (first | exact h | apply ih | apply n_isNoted_139 | apply n_isNoted_64 | apply NtM.up0 | refine NtM.u100 ?_ (by decide) | refine NtM.uk ?_ (by decide))
def f_Mod_isNoted_44 (c : Nat) (Z : Nat → Nat → Int32) : Int32 × (Nat → Nat → Int32) :=
  f_Mod_isNoted_48 c 21 Z 1 1
set_option maxRecDepth 4000 in
theorem w_Mod_isNoted_44 {g : GG} {Q : QT} {h : Hp} {kc ks : Nat} (hst : (gl g).stackTraces = false) {A : Nat → Nat} (hnd : (gK (moL g A)).Nodup) (c : Nat) (hc : c < 10)  (Z : Nat → Nat → Int32) (hw : wfM Z) (hN : NtM Z) (hk : Q (.inl (some (.int (f_Mod_isNoted_44 c Z).1))) (ov h (gO (moL g A) ((f_Mod_isNoted_44 c Z).2)))) : PW g M_Mod_isNoted 6 kc ks Q 44 [.ref (A 100), .int (nI (c)), .retAddr 0, .retAddr 0, .retAddr 0] [] (ov h (gO (moL g A) Z)) := by
  have hz0 := hw.blk.2
  have hz1 := hw.lnk.2
  have hz2 := hw.dvs.2
  refine pw_iconst (v := nI 1) e_Mod_isNoted_44 (by decide) ?_
  refine pw_istore_n (ls2 := [_, _, _, _, _]) e_Mod_isNoted_45 (by decide) rfl ?_
  refine pw_iconst (v := nI 1) e_Mod_isNoted_46 (by decide) ?_
  refine pw_istore_n (ls2 := [_, _, _, _, _]) e_Mod_isNoted_47 (by decide) rfl ?_
  refine w_Mod_isNoted_48 hst hnd c hc 21 Z 1 1 hw (by repeat (first | exact hN | apply n_isNoted_64 | apply n_isNoted_139 | apply NtM.up0 | refine NtM.u100 ?_ (by decide) | refine NtM.uk ?_ (by decide))) (Or.inr rfl) (by omega) (by omega) ?_
  rw [f_Mod_isNoted_44] at hk
  exact hk
def f_Mod_isNoted_33 (c : Nat) (Z : Nat → Nat → Int32) : Int32 × (Nat → Nat → Int32) :=
  f_Mod_isNoted_44 c (va_up Z 0 (f_Mod_powers Z 210 (nI (c - 1)) (nI 0) (Z 0)))
set_option maxRecDepth 4000 in
theorem w_Mod_isNoted_33 {g : GG} {Q : QT} {h : Hp} {kc ks : Nat} (hst : (gl g).stackTraces = false) {A : Nat → Nat} (hnd : (gK (moL g A)).Nodup) (c : Nat) (hc : c < 10)  (Z : Nat → Nat → Int32) (hw : wfM Z) (hN : NtM Z) (hc1 : 1 ≤ c) (hk : Q (.inl (some (.int (f_Mod_isNoted_33 c Z).1))) (ov h (gO (moL g A) ((f_Mod_isNoted_33 c Z).2)))) : PW g M_Mod_isNoted 6 kc ks Q 33 [.ref (A 100), .int (nI (c)), .retAddr 0, .retAddr 0, .retAddr 0] [] (ov h (gO (moL g A) Z)) := by
  have hz0 := hw.blk.2
  have hz1 := hw.lnk.2
  have hz2 := hw.dvs.2
  refine pw_aload_n e_Mod_isNoted_33 rfl ?_
  refine pw_sipush (v := nI 210) e_Mod_isNoted_34 (by decide) ?_
  refine pw_iload_n e_Mod_isNoted_37 rfl ?_
  refine pw_iconst (v := nI 1) e_Mod_isNoted_38 (by decide) ?_
  refine pw_isubN (by omega) e_Mod_isNoted_39 ?_
  refine pw_iconst (v := nI 0) e_Mod_isNoted_40 (by decide) ?_
  refine pw_detV (As := [.int (nI (210)), .int (nI (c - 1)), .int (nI (0))]) e_Mod_isNoted_41 li_Mod_422 rfl (gO_get hnd (i := 0) rfl) (q_Mod_powers hst (mo_at hnd) hw 210 (nI (c - 1)) (nI 0) (by omega) (Z 0) (gO_get hnd (i := 1) rfl)) rfl (by decide) (Nat.le_of_ble_eq_true rfl) rfl ?_
  refine pw_upG (i := 1) hnd (mo_x _ _) rfl rfl ?_
  refine w_Mod_isNoted_44 hst hnd c hc (va_up Z 0 (f_Mod_powers Z 210 (nI (c - 1)) (nI 0) (Z 0))) (wfM.up0 hw) (by repeat (first | exact hN | apply n_isNoted_64 | apply n_isNoted_139 | apply NtM.up0 | refine NtM.u100 ?_ (by decide) | refine NtM.uk ?_ (by decide))) ?_
  rw [f_Mod_isNoted_33] at hk
  exact hk
def f_Mod_isNoted (c : Nat) (Z : Nat → Nat → Int32) : Int32 × (Nat → Nat → Int32) :=
  if c ≤ 5 then if (nI (c)) ≤ 0 then f_Mod_isNoted_44 c (va_up Z 0 (f_Mod_tries Z (Z 0))) else f_Mod_isNoted_33 c (va_up Z 0 (f_Mod_tries Z (Z 0))) else f_Mod_isNoted_44 c (u2 (va_up Z 0 (f_Mod_tries Z (Z 0))) 0 414 ((((va_up Z 0 (f_Mod_tries Z (Z 0))) 0) 414) ||| ((1 : Int32) <<< ((nI (c - 6)) &&& 31))))
set_option maxRecDepth 4000 in
theorem w_Mod_isNoted_0 {g : GG} {Q : QT} {h : Hp} {kc ks : Nat} (hst : (gl g).stackTraces = false) {A : Nat → Nat} (hnd : (gK (moL g A)).Nodup) (c : Nat) (hc : c < 10)  (Z : Nat → Nat → Int32) (hw : wfM Z) (hN : NtM Z) (hk : Q (.inl (some (.int (f_Mod_isNoted c Z).1))) (ov h (gO (moL g A) ((f_Mod_isNoted c Z).2)))) : PW g M_Mod_isNoted 6 kc ks Q 0 [.ref (A 100), .int (nI (c)), .retAddr 0, .retAddr 0, .retAddr 0] [] (ov h (gO (moL g A) Z)) := by
  have hz0 := hw.blk.2
  have hz1 := hw.lnk.2
  have hz2 := hw.dvs.2
  refine pw_aload_n e_Mod_isNoted_0 rfl ?_
  refine pw_detV (As := []) e_Mod_isNoted_1 li_Mod_429 rfl (gO_get hnd (i := 0) rfl) (q_Mod_tries hst (mo_at hnd) hw  (Z 0) (gO_get hnd (i := 1) rfl)) rfl (by decide) (Nat.le_of_ble_eq_true rfl) rfl ?_
  refine pw_upG (i := 1) hnd (mo_x _ _) rfl rfl ?_
  refine pw_iload_n e_Mod_isNoted_4 rfl ?_
  refine pw_iconst (v := nI 5) e_Mod_isNoted_5 (by decide) ?_
  refine pw_icmp_leN (tgt := 29) e_Mod_isNoted_6 (by decide) (by omega) (by omega) (fun (H1 : c ≤ 5) => ?_) (fun (H1 : 5 < c) => ?_)
  · refine pw_iload_n e_Mod_isNoted_29 rfl ?_
    refine pw_if_le (tgt := 44) e_Mod_isNoted_30 (by decide) (fun (H2 : (nI (c)) ≤ 0) => ?_) (fun (H2 : ¬ (nI (c)) ≤ 0) => ?_)
    · refine w_Mod_isNoted_44 hst hnd c hc (va_up Z 0 (f_Mod_tries Z (Z 0))) (wfM.up0 hw) (by repeat (first | exact hN | apply n_isNoted_64 | apply n_isNoted_139 | apply NtM.up0 | refine NtM.u100 ?_ (by decide) | refine NtM.uk ?_ (by decide))) ?_
      rw [f_Mod_isNoted, if_pos H1, if_pos H2] at hk
      exact hk
    · refine w_Mod_isNoted_33 hst hnd c hc (va_up Z 0 (f_Mod_tries Z (Z 0))) (wfM.up0 hw) (by repeat (first | exact hN | apply n_isNoted_64 | apply n_isNoted_139 | apply NtM.up0 | refine NtM.u100 ?_ (by decide) | refine NtM.uk ?_ (by decide))) (pos_of (by omega) (by assumption)) ?_
      rw [f_Mod_isNoted, if_pos H1, if_neg H2] at hk
      exact hk
  · refine pw_aload_n e_Mod_isNoted_9 rfl ?_
    refine pw_getf e_Mod_isNoted_10 fl_Mod_9 (gO_get hnd (i := 0) rfl) rfl ?_
    refine pw_sipush (v := nI 414) e_Mod_isNoted_13 (by decide) ?_
    refine pw_dup2 e_Mod_isNoted_16 rfl rfl ?_
    refine pw_ialdN e_Mod_isNoted_17 (gO_get hnd (i := 1) rfl) (by omega) (by decide) ?_
    refine pw_iconst (v := nI 1) e_Mod_isNoted_18 (by decide) ?_
    refine pw_iload_n e_Mod_isNoted_19 rfl ?_
    refine pw_bipush (v := nI 6) e_Mod_isNoted_20 (by decide) ?_
    refine pw_isubN (by omega) e_Mod_isNoted_22 ?_
    refine pw_ishl e_Mod_isNoted_23 ?_
    refine pw_ior e_Mod_isNoted_24 ?_
    refine pw_iastG (i := 1) e_Mod_isNoted_25 hnd (mo_x _ _) rfl (by omega) (by decide) ?_
    refine pw_goto (tgt := 44) e_Mod_isNoted_26 (by decide) ?_
    refine w_Mod_isNoted_44 hst hnd c hc (u2 (va_up Z 0 (f_Mod_tries Z (Z 0))) 0 414 ((((va_up Z 0 (f_Mod_tries Z (Z 0))) 0) 414) ||| ((1 : Int32) <<< ((nI (c - 6)) &&& 31)))) (wfM.uk (k := 0) (wfM.up0 hw) (by decide)) (by repeat (first | exact hN | apply n_isNoted_64 | apply n_isNoted_139 | apply NtM.up0 | refine NtM.u100 ?_ (by decide) | refine NtM.uk ?_ (by decide))) ?_
    rw [f_Mod_isNoted, if_neg (Nat.not_le.mpr H1)] at hk
    exact hk
theorem q_Mod_isNoted {g : GG} {h : Hp} (hst : (gl g).stackTraces = false) {A : Nat → Nat} (hnd : (gK (moL g A)).Nodup) (c : Nat) (hc : c < 10)  (Z : Nat → Nat → Int32) (hm : ∀ q ∈ gO (moL g A) Z, h q.1 = some q.2) (hw : wfM Z) (hN : NtM Z) : PM g M_Mod_isNoted 6 0 0 [.ref (A 100), .int (nI (c))] h (RetV (some (.int (f_Mod_isNoted c Z).1)) (ov h (gO (moL g A) ((f_Mod_isNoted c Z).2)))) := by
  refine PM.of hst (by decide) rfl (fun v hv => ?_) (Nat.le_of_ble_eq_true rfl) ?_
  · simp only [List.mem_cons, List.not_mem_nil, or_false] at hv; rcases hv with rfl | rfl <;> rfl
  · have hq := w_Mod_isNoted_0 (g := g) (Q := RetV (some (.int (f_Mod_isNoted c Z).1)) (ov h (gO (moL g A) ((f_Mod_isNoted c Z).2)))) (h := h) (kc := 0) (ks := 0) hst hnd c hc Z hw hN ?_
    · rw [ov_self hm] at hq; exact hq
    · exact ⟨rfl, rfl⟩

theorem z_isNoted {c : Nat} {Z : Nat → Nat → Int32} (h : wfM Z) : wfM (f_Mod_isNoted c Z).2 := by
  rw [f_Mod_isNoted]
  repeat' split
  all_goals (try rw [f_Mod_isNoted_33])
  all_goals (rw [f_Mod_isNoted_44]; apply z_isNoted_48; repeat (first | exact h | apply wfM.up0 | refine wfM.uk ?_ (by decide)))
theorem n_isNoted {c : Nat} {Z : Nat → Nat → Int32} (h : NtM Z) : NtM (f_Mod_isNoted c Z).2 := by
  rw [f_Mod_isNoted]
  repeat' split
  all_goals (try rw [f_Mod_isNoted_33])
  all_goals (rw [f_Mod_isNoted_44]; apply n_isNoted_48; repeat (first | exact h | apply NtM.up0 | refine NtM.uk ?_ (by decide)))
theorem NtM.rt {x y : Int32} {Z : Nat → Nat → Int32} (h : NtM Z) : NtM (f_Mod_right x y Z).2 := h.of (rt_100 (by decide)) (rt_keep (by decide))
def f_Mod_fits_9  : Nat → (Nat → Nat → Int32) → (Int32) → (Nat) → Int32 × (Nat → Nat → Int32)
  | 0, Z, _, _ => (0, Z)
  | t + 1, Z, u, c => if 10 ≤ c then (u, Z) else if (f_Mod_isCause c Z) = 0 then f_Mod_fits_9  t Z u (c + 1) else if ((f_Mod_isNoted c Z).1) = 0 then f_Mod_fits_9  t ((f_Mod_isNoted c Z).2) u (c + 1) else f_Mod_fits_9  t ((f_Mod_isNoted c Z).2) (u ||| ((1 : Int32) <<< ((nI (c)) &&& 31))) (c + 1)
set_option maxRecDepth 4000 in
theorem w_Mod_fits_9 {g : GG} {Q : QT} {h : Hp} {kc ks : Nat} (hst : (gl g).stackTraces = false) {A : Nat → Nat} (hnd : (gK (moL g A)).Nodup)  (t : Nat) : ∀ (Z : Nat → Nat → Int32) (u : Int32) (c : Nat) (hw : wfM Z) (hN : NtM Z) (hc9 : c ≤ 10) (hlt : 10 - c < t) (hk : Q (.inl (some (.int (f_Mod_fits_9  t Z u c).1))) (ov h (gO (moL g A) ((f_Mod_fits_9  t Z u c).2)))), PW g M_Mod_fits 7 kc ks Q 9 [.ref (A 100), .int (u), .int (nI (c))] [] (ov h (gO (moL g A) Z)) := by
  induction t with
  | zero => intro Z u c hw hN hc9 hlt _; exact absurd hlt (Nat.not_lt_zero _)
  | succ t ih =>
    intro Z u c hw hN hc9 hlt hk
    have hz0 := hw.blk.2
    have hz1 := hw.lnk.2
    have hz2 := hw.dvs.2
    refine pw_iload_n e_Mod_fits_9 rfl ?_
    refine pw_bipush (v := nI 10) e_Mod_fits_10 (by decide) ?_
    refine pw_icmp_geN (tgt := 43) e_Mod_fits_12 (by decide) (by omega) (by omega) (fun (H1 : 10 ≤ c) => ?_) (fun (H1 : c < 10) => ?_)
    · refine pw_iload_n e_Mod_fits_43 rfl ?_
      refine pw_iret e_Mod_fits_44 rfl rfl ?_
      rw [f_Mod_fits_9, if_pos H1] at hk
      exact hk
    · refine pw_aload_n e_Mod_fits_15 rfl ?_
      refine pw_iload_n e_Mod_fits_16 rfl ?_
      refine pw_detV (As := [.int (nI (c))]) e_Mod_fits_17 li_Mod_447 rfl (gO_get hnd (i := 0) rfl) (q_Mod_isCause hst hnd c (by omega) Z (gO_in hnd (fun _ z => z)) hw) rfl (by decide) (Nat.le_of_ble_eq_true rfl) rfl ?_
      refine pw_if_eq (tgt := 37) e_Mod_fits_20 (by decide) (fun (H2 : (f_Mod_isCause c Z) = 0) => ?_) (fun (H2 : ¬ (f_Mod_isCause c Z) = 0) => ?_)
      · refine pw_iincN (ls2 := [_, _, _]) e_Mod_fits_37 rfl (by decide) rfl ?_
        refine pw_goto (tgt := 9) e_Mod_fits_40 (by decide) ?_
        refine ih Z u (c + 1) hw hN (by omega) (by omega) ?_
        rw [f_Mod_fits_9, if_neg (Nat.not_le.mpr H1), if_pos H2] at hk
        exact hk
      · refine pw_aload_n e_Mod_fits_23 rfl ?_
        refine pw_iload_n e_Mod_fits_24 rfl ?_
        refine pw_detV (As := [.int (nI (c))]) e_Mod_fits_25 li_Mod_450 rfl (gO_get hnd (i := 0) rfl) (q_Mod_isNoted hst hnd c (by omega) Z (gO_in hnd (fun _ z => z)) hw hN) rfl (by decide) (Nat.le_of_ble_eq_true rfl) rfl ?_
        refine pw_sameG hnd ?_
        refine pw_if_eq (tgt := 37) e_Mod_fits_28 (by decide) (fun (H3 : ((f_Mod_isNoted c Z).1) = 0) => ?_) (fun (H3 : ¬ ((f_Mod_isNoted c Z).1) = 0) => ?_)
        · refine pw_iincN (ls2 := [_, _, _]) e_Mod_fits_37 rfl (by decide) rfl ?_
          refine pw_goto (tgt := 9) e_Mod_fits_40 (by decide) ?_
          refine ih ((f_Mod_isNoted c Z).2) u (c + 1) (z_isNoted hw) (n_isNoted hN) (by omega) (by omega) ?_
          rw [f_Mod_fits_9, if_neg (Nat.not_le.mpr H1), if_neg H2, if_pos H3] at hk
          exact hk
        · refine pw_iload_n e_Mod_fits_31 rfl ?_
          refine pw_iconst (v := nI 1) e_Mod_fits_32 (by decide) ?_
          refine pw_iload_n e_Mod_fits_33 rfl ?_
          refine pw_ishl e_Mod_fits_34 ?_
          refine pw_ior e_Mod_fits_35 ?_
          refine pw_istore_n (ls2 := [_, _, _]) e_Mod_fits_36 (by decide) rfl ?_
          refine pw_iincN (ls2 := [_, _, _]) e_Mod_fits_37 rfl (by decide) rfl ?_
          refine pw_goto (tgt := 9) e_Mod_fits_40 (by decide) ?_
          refine ih ((f_Mod_isNoted c Z).2) (u ||| ((1 : Int32) <<< ((nI (c)) &&& 31))) (c + 1) (z_isNoted hw) (n_isNoted hN) (by omega) (by omega) ?_
          rw [f_Mod_fits_9, if_neg (Nat.not_le.mpr H1), if_neg H2, if_neg H3] at hk
          exact hk
def f_Mod_fits  (Z : Nat → Nat → Int32) : Int32 × (Nat → Nat → Int32) :=
  f_Mod_fits_9  11 (u2 Z 100 18 0) 0 0
set_option maxRecDepth 4000 in
theorem w_Mod_fits_0 {g : GG} {Q : QT} {h : Hp} {kc ks : Nat} (hst : (gl g).stackTraces = false) {A : Nat → Nat} (hnd : (gK (moL g A)).Nodup)  (Z : Nat → Nat → Int32) (hw : wfM Z) (hN : NtM Z) (hk : Q (.inl (some (.int (f_Mod_fits  Z).1))) (ov h (gO (moL g A) ((f_Mod_fits  Z).2)))) : PW g M_Mod_fits 7 kc ks Q 0 [.ref (A 100), .retAddr 0, .retAddr 0] [] (ov h (gO (moL g A) Z)) := by
  have hz0 := hw.blk.2
  have hz1 := hw.lnk.2
  have hz2 := hw.dvs.2
  refine pw_aload_n e_Mod_fits_0 rfl ?_
  refine pw_iconst (v := nI 0) e_Mod_fits_1 (by decide) ?_
  refine pw_putGi (i := 0) (ps := 18) (x := 0) e_Mod_fits_2 fp_Mod_159 hnd (mo_x _ _) rfl (Nat.le_of_ble_eq_true rfl) rfl rfl (fun _ _ => rfl) ?_
  refine pw_iconst (v := nI 0) e_Mod_fits_5 (by decide) ?_
  refine pw_istore_n (ls2 := [_, _, _]) e_Mod_fits_6 (by decide) rfl ?_
  refine pw_iconst (v := nI 0) e_Mod_fits_7 (by decide) ?_
  refine pw_istore_n (ls2 := [_, _, _]) e_Mod_fits_8 (by decide) rfl ?_
  refine w_Mod_fits_9 hst hnd 11 (u2 Z 100 18 0) 0 0 (wfM.u100 (i := 18) hw (by decide)) (hN.u100 (i := 18) (by decide)) (by omega) (by omega) ?_
  rw [f_Mod_fits] at hk
  exact hk
theorem q_Mod_fits {g : GG} {h : Hp} (hst : (gl g).stackTraces = false) {A : Nat → Nat} (hnd : (gK (moL g A)).Nodup)  (Z : Nat → Nat → Int32) (hm : ∀ q ∈ gO (moL g A) Z, h q.1 = some q.2) (hw : wfM Z) (hN : NtM Z) : PM g M_Mod_fits 7 0 0 [.ref (A 100)] h (RetV (some (.int (f_Mod_fits  Z).1)) (ov h (gO (moL g A) ((f_Mod_fits  Z).2)))) := by
  refine PM.of hst (by decide) rfl (fun v hv => ?_) (Nat.le_of_ble_eq_true rfl) ?_
  · simp only [List.mem_cons, List.not_mem_nil, or_false] at hv; rcases hv with rfl <;> rfl
  · have hq := w_Mod_fits_0 (g := g) (Q := RetV (some (.int (f_Mod_fits  Z).1)) (ov h (gO (moL g A) ((f_Mod_fits  Z).2)))) (h := h) (kc := 0) (ks := 0) hst hnd Z hw hN ?_
    · rw [ov_self hm] at hq; exact hq
    · exact ⟨rfl, rfl⟩

def f_Mod_look_130 (x : Int32) : Nat → (Nat → Nat → Int32) → (Int32) → (Int32) → (Nat) → (Int32) → (Nat) → Int32 × (Nat → Nat → Int32)
  | 0, Z, _, _, _, _, _ => (0, Z)
  | t + 1, Z, it, tp, b, n, m => if 4 ≤ m then (n, Z) else f_Mod_look_130 x t Z it tp b (n + ((((Z 74) b) >>> ((nI (m)) &&& 31)) &&& 1)) (m + 1)
set_option maxRecDepth 4000 in
theorem w_Mod_look_130 {g : GG} {Q : QT} {h : Hp} {kc ks : Nat} (hst : (gl g).stackTraces = false) {A : Nat → Nat} (hnd : (gK (moL g A)).Nodup) (x : Int32)  (t : Nat) : ∀ (Z : Nat → Nat → Int32) (it : Int32) (tp : Int32) (b : Nat) (n : Int32) (m : Nat) (hw : wfM Z) (hb9 : b < 10) (hm9 : m ≤ 4) (hlt : 4 - m < t) (hk : PW g M_Mod_look 7 kc ks Q 159 [.ref (A 100), .int (x), .int (it), .int (tp), .int (nI (b)), .int ((f_Mod_look_130 x t Z it tp b n m).1), .retAddr 0] [] (ov h (gO (moL g A) ((f_Mod_look_130 x t Z it tp b n m).2)))), PW g M_Mod_look 7 kc ks Q 130 [.ref (A 100), .int (x), .int (it), .int (tp), .int (nI (b)), .int (n), .int (nI (m))] [] (ov h (gO (moL g A) Z)) := by
  induction t with
  | zero => intro Z it tp b n m hw hb9 hm9 hlt _; exact absurd hlt (Nat.not_lt_zero _)
  | succ t ih =>
    intro Z it tp b n m hw hb9 hm9 hlt hk
    have hz0 := hw.blk.2
    have hz1 := hw.lnk.2
    have hz2 := hw.dvs.2
    refine pw_iload e_Mod_look_130 rfl ?_
    refine pw_iconst (v := nI 4) e_Mod_look_132 (by decide) ?_
    refine pw_icmp_geN (tgt := 159) e_Mod_look_133 (by decide) (by omega) (by omega) (fun (H1 : 4 ≤ m) => ?_) (fun (H1 : m < 4) => ?_)
    · refine pw_fgt (ls' := [.ref (A 100), .int (x), .int (it), .int (tp), .int (nI (b)), .int (n), .retAddr 0]) ⟨Or.inr rfl, Or.inr rfl, Or.inr rfl, Or.inr rfl, Or.inr rfl, Or.inr rfl, Or.inl rfl, trivial⟩ ?_
      rw [f_Mod_look_130, if_pos H1] at hk
      exact hk
    · refine pw_iload e_Mod_look_136 rfl ?_
      refine pw_aload_n e_Mod_look_138 rfl ?_
      refine pw_getf e_Mod_look_139 fl_Mod_150 (gO_get hnd (i := 0) rfl) rfl ?_
      refine pw_iload e_Mod_look_142 rfl ?_
      refine pw_ialdN e_Mod_look_144 (gO_get hnd (i := 42) rfl) (by omega) (by decide) ?_
      refine pw_iload e_Mod_look_145 rfl ?_
      refine pw_ishr e_Mod_look_147 ?_
      refine pw_iconst (v := nI 1) e_Mod_look_148 (by decide) ?_
      refine pw_iand e_Mod_look_149 ?_
      refine pw_iadd e_Mod_look_150 ?_
      refine pw_istore (ls2 := [_, _, _, _, _, _, _]) e_Mod_look_151 (by decide) rfl ?_
      refine pw_iincN (ls2 := [_, _, _, _, _, _, _]) e_Mod_look_153 rfl (by decide) rfl ?_
      refine pw_goto (tgt := 130) e_Mod_look_156 (by decide) ?_
      refine ih Z it tp b (n + ((((Z 74) b) >>> ((nI (m)) &&& 31)) &&& 1)) (m + 1) hw (by omega) (by omega) (by omega) ?_
      rw [f_Mod_look_130, if_neg (Nat.not_le.mpr H1)] at hk
      exact hk
theorem z_look_130 {x : Int32} : ∀ (t : Nat) {Z : Nat → Nat → Int32} (it : Int32) (tp : Int32) (b : Nat) (n : Int32) (m : Nat) (h : wfM Z), wfM (f_Mod_look_130 x t Z it tp b n m).2 := by
  intro t
  induction t with
  | zero => intro Z it tp b n m h; exact h
  | succ t ih =>
    intro Z it tp b n m h
    rw [f_Mod_look_130]
    repeat' split
    all_goals repeat (first | exact h | apply ih | apply wfM.up0 | refine wfM.u100 ?_ (by decide) | refine wfM.uk ?_ (by decide))
def f_Mod_look_115 (x : Int32) : Nat → (Nat → Nat → Int32) → (Int32) → (Int32) → (Nat) → Int32 × (Nat → Nat → Int32)
  | 0, Z, _, _, _ => (0, Z)
  | t + 1, Z, it, tp, b => if (pN Z 100 20) ≤ b then if x = 0 then (it, Z) else (tp, Z) else if tp < ((f_Mod_look_130 x 5 Z it tp b 0 0).1) then f_Mod_look_115 x t ((f_Mod_look_130 x 5 Z it tp b 0 0).2) (nI (b)) ((f_Mod_look_130 x 5 Z it tp b 0 0).1) (b + 1) else f_Mod_look_115 x t ((f_Mod_look_130 x 5 Z it tp b 0 0).2) it tp (b + 1)
set_option maxRecDepth 4000 in
theorem w_Mod_look_115 {g : GG} {Q : QT} {h : Hp} {kc ks : Nat} (hst : (gl g).stackTraces = false) {A : Nat → Nat} (hnd : (gK (moL g A)).Nodup) (x : Int32)  (t : Nat) : ∀ (Z : Nat → Nat → Int32) (it : Int32) (tp : Int32) (b : Nat) (hw : wfM Z) (hb9 : b ≤ 10) (hlt : 10 - b < t) (hk : Q (.inl (some (.int (f_Mod_look_115 x t Z it tp b).1))) (ov h (gO (moL g A) ((f_Mod_look_115 x t Z it tp b).2)))), PW g M_Mod_look 7 kc ks Q 115 [.ref (A 100), .int (x), .int (it), .int (tp), .int (nI (b)), .retAddr 0, .retAddr 0] [] (ov h (gO (moL g A) Z)) := by
  induction t with
  | zero => intro Z it tp b hw hb9 hlt _; exact absurd hlt (Nat.not_lt_zero _)
  | succ t ih =>
    intro Z it tp b hw hb9 hlt hk
    have hz0 := hw.blk.2
    have hz1 := hw.lnk.2
    have hz2 := hw.dvs.2
    refine pw_iload e_Mod_look_115 rfl ?_
    refine pw_aload_n e_Mod_look_117 rfl ?_
    refine pw_getf e_Mod_look_118 fl_Mod_183 (gO_get hnd (i := 0) rfl) rfl ?_
    rw [show Z 100 20 = nI (pN Z 100 20) from hw.blk.1]
    refine pw_icmp_geN (tgt := 180) e_Mod_look_121 (by decide) (by omega) (by omega) (fun (H1 : (pN Z 100 20) ≤ b) => ?_) (fun (H1 : b < (pN Z 100 20)) => ?_)
    · refine pw_iload_n e_Mod_look_180 rfl ?_
      refine pw_if_ne (tgt := 188) e_Mod_look_181 (by decide) (fun (H2 : ¬ x = 0) => ?_) (fun (H2 : x = 0) => ?_)
      · refine pw_iload_n e_Mod_look_188 rfl ?_
        refine pw_iret e_Mod_look_189 rfl rfl ?_
        rw [f_Mod_look_115, if_pos H1, if_neg H2] at hk
        exact hk
      · refine pw_iload_n e_Mod_look_184 rfl ?_
        refine pw_goto (tgt := 189) e_Mod_look_185 (by decide) ?_
        refine pw_iret e_Mod_look_189 rfl rfl ?_
        rw [f_Mod_look_115, if_pos H1, if_pos H2] at hk
        exact hk
    · refine pw_iconst (v := nI 0) e_Mod_look_124 (by decide) ?_
      refine pw_istore (ls2 := [_, _, _, _, _, _, _]) e_Mod_look_125 (by decide) rfl ?_
      refine pw_iconst (v := nI 0) e_Mod_look_127 (by decide) ?_
      refine pw_istore (ls2 := [_, _, _, _, _, _, _]) e_Mod_look_128 (by decide) rfl ?_
      refine w_Mod_look_130 hst hnd x 5 Z it tp b 0 0 hw (by omega) (by omega) (by omega) ?_
      refine pw_iload e_Mod_look_159 rfl ?_
      refine pw_iload_n e_Mod_look_161 rfl ?_
      refine pw_icmp_gt (tgt := 168) e_Mod_look_162 (by decide) (fun (H3 : tp < ((f_Mod_look_130 x 5 Z it tp b 0 0).1)) => ?_) (fun (H3 : ¬ tp < ((f_Mod_look_130 x 5 Z it tp b 0 0).1)) => ?_)
      · refine pw_iload e_Mod_look_168 rfl ?_
        refine pw_istore_n (ls2 := [_, _, _, _, _, _, _]) e_Mod_look_170 (by decide) rfl ?_
        refine pw_iload e_Mod_look_171 rfl ?_
        refine pw_istore_n (ls2 := [_, _, _, _, _, _, _]) e_Mod_look_173 (by decide) rfl ?_
        refine pw_iincN (ls2 := [_, _, _, _, _, _, _]) e_Mod_look_174 rfl (by decide) rfl ?_
        refine pw_goto (tgt := 115) e_Mod_look_177 (by decide) ?_
        refine pw_fgt (ls' := [.ref (A 100), .int (x), .int (nI (b)), .int ((f_Mod_look_130 x 5 Z it tp b 0 0).1), .int (nI (b + 1)), .retAddr 0, .retAddr 0]) ⟨Or.inr rfl, Or.inr rfl, Or.inr rfl, Or.inr rfl, Or.inr rfl, Or.inl rfl, Or.inr rfl, trivial⟩ ?_
        refine ih ((f_Mod_look_130 x 5 Z it tp b 0 0).2) (nI (b)) ((f_Mod_look_130 x 5 Z it tp b 0 0).1) (b + 1) (z_look_130 _ _ _ _ _ _ hw) (by omega) (by omega) ?_
        rw [f_Mod_look_115, if_neg (Nat.not_le.mpr H1), if_pos H3] at hk
        exact hk
      · refine pw_goto (tgt := 174) e_Mod_look_165 (by decide) ?_
        refine pw_iincN (ls2 := [_, _, _, _, _, _, _]) e_Mod_look_174 rfl (by decide) rfl ?_
        refine pw_goto (tgt := 115) e_Mod_look_177 (by decide) ?_
        refine pw_fgt (ls' := [.ref (A 100), .int (x), .int (it), .int (tp), .int (nI (b + 1)), .retAddr 0, .retAddr 0]) ⟨Or.inr rfl, Or.inr rfl, Or.inr rfl, Or.inr rfl, Or.inr rfl, Or.inl rfl, Or.inr rfl, trivial⟩ ?_
        refine ih ((f_Mod_look_130 x 5 Z it tp b 0 0).2) it tp (b + 1) (z_look_130 _ _ _ _ _ _ hw) (by omega) (by omega) ?_
        rw [f_Mod_look_115, if_neg (Nat.not_le.mpr H1), if_neg H3] at hk
        exact hk
def f_Mod_look_71 (x : Int32) : Nat → (Nat → Nat → Int32) → (Nat) → (Nat) → (Nat → Nat → Int32)
  | 0, Z, _, _ => Z
  | t + 1, Z, c, b => if (pN Z 100 20) ≤ b then Z else f_Mod_look_71 x t (u2 Z 74 b (((Z 74) b) ||| ((1 : Int32) <<< (((Z 73) b) &&& 31)))) c (b + 1)
set_option maxRecDepth 4000 in
theorem w_Mod_look_71 {g : GG} {Q : QT} {h : Hp} {kc ks : Nat} (hst : (gl g).stackTraces = false) {A : Nat → Nat} (hnd : (gK (moL g A)).Nodup) (x : Int32)  (t : Nat) : ∀ (Z : Nat → Nat → Int32) (c : Nat) (b : Nat) (hw : wfM Z) (hN : NtM Z) (hc9 : c < 10) (hb9 : b ≤ 10) (hlt : 10 - b < t) (hk : PW g M_Mod_look 7 kc ks Q 102 [.ref (A 100), .int (x), .int (nI (c)), .retAddr 0, .retAddr 0, .retAddr 0, .retAddr 0] [] (ov h (gO (moL g A) (f_Mod_look_71 x t Z c b)))), PW g M_Mod_look 7 kc ks Q 71 [.ref (A 100), .int (x), .int (nI (c)), .int (nI (b)), .retAddr 0, .retAddr 0, .retAddr 0] [] (ov h (gO (moL g A) Z)) := by
  induction t with
  | zero => intro Z c b hw hN hc9 hb9 hlt _; exact absurd hlt (Nat.not_lt_zero _)
  | succ t ih =>
    intro Z c b hw hN hc9 hb9 hlt hk
    have hz0 := hw.blk.2
    have hz1 := hw.lnk.2
    have hz2 := hw.dvs.2
    refine pw_iload_n e_Mod_look_71 rfl ?_
    refine pw_aload_n e_Mod_look_72 rfl ?_
    refine pw_getf e_Mod_look_73 fl_Mod_183 (gO_get hnd (i := 0) rfl) rfl ?_
    rw [show Z 100 20 = nI (pN Z 100 20) from hw.blk.1]
    refine pw_icmp_geN (tgt := 102) e_Mod_look_76 (by decide) (by omega) (by omega) (fun (H1 : (pN Z 100 20) ≤ b) => ?_) (fun (H1 : b < (pN Z 100 20)) => ?_)
    · refine pw_fgt (ls' := [.ref (A 100), .int (x), .int (nI (c)), .retAddr 0, .retAddr 0, .retAddr 0, .retAddr 0]) ⟨Or.inr rfl, Or.inr rfl, Or.inr rfl, Or.inl rfl, Or.inr rfl, Or.inr rfl, Or.inr rfl, trivial⟩ ?_
      rw [f_Mod_look_71, if_pos H1] at hk
      exact hk
    · refine pw_aload_n e_Mod_look_79 rfl ?_
      refine pw_getf e_Mod_look_80 fl_Mod_150 (gO_get hnd (i := 0) rfl) rfl ?_
      refine pw_iload_n e_Mod_look_83 rfl ?_
      refine pw_dup2 e_Mod_look_84 rfl rfl ?_
      refine pw_ialdN e_Mod_look_85 (gO_get hnd (i := 42) rfl) (by omega) (by decide) ?_
      refine pw_iconst (v := nI 1) e_Mod_look_86 (by decide) ?_
      refine pw_aload_n e_Mod_look_87 rfl ?_
      refine pw_getf e_Mod_look_88 fl_Mod_147 (gO_get hnd (i := 0) rfl) rfl ?_
      refine pw_iload_n e_Mod_look_91 rfl ?_
      refine pw_ialdN e_Mod_look_92 (gO_get hnd (i := 41) rfl) (by omega) (by decide) ?_
      refine pw_ishl e_Mod_look_93 ?_
      refine pw_ior e_Mod_look_94 ?_
      refine pw_iastG (i := 42) e_Mod_look_95 hnd (mo_x _ _) rfl (by omega) (by decide) ?_
      refine pw_iincN (ls2 := [_, _, _, _, _, _, _]) e_Mod_look_96 rfl (by decide) rfl ?_
      refine pw_goto (tgt := 71) e_Mod_look_99 (by decide) ?_
      refine ih (u2 Z 74 b (((Z 74) b) ||| ((1 : Int32) <<< (((Z 73) b) &&& 31)))) c (b + 1) (wfM.uk (k := 74) hw (by decide)) hN (by omega) (by omega) (by omega) ?_
      rw [f_Mod_look_71, if_neg (Nat.not_le.mpr H1)] at hk
      exact hk
theorem z_look_71 {x : Int32} : ∀ (t : Nat) {Z : Nat → Nat → Int32} (c : Nat) (b : Nat) (h : wfM Z), wfM (f_Mod_look_71 x t Z c b) := by
  intro t
  induction t with
  | zero => intro Z c b h; exact h
  | succ t ih =>
    intro Z c b h
    rw [f_Mod_look_71]
    repeat' split
    all_goals repeat (first | exact h | apply ih | apply wfM.up0 | refine wfM.u100 ?_ (by decide) | refine wfM.uk ?_ (by decide))
theorem n_look_71 {x : Int32} : ∀ (t : Nat) {Z : Nat → Nat → Int32} (c : Nat) (b : Nat) (h : NtM Z), NtM (f_Mod_look_71 x t Z c b) := by
  intro t
  induction t with
  | zero => intro Z c b h; exact h
  | succ t ih =>
    intro Z c b h
    rw [f_Mod_look_71]
    repeat' split
    all_goals repeat (first | exact h | apply ih | apply NtM.up0 | refine NtM.u100 ?_ (by decide) | refine NtM.uk ?_ (by decide))
def f_Mod_look_44 (x : Int32) : Nat → (Nat → Nat → Int32) → (Nat) → (Nat → Nat → Int32)
  | 0, Z, _ => Z
  | t + 1, Z, c => if 10 ≤ c then Z else if (f_Mod_isCause c Z) = 0 then f_Mod_look_44 x t Z (c + 1) else if ((f_Mod_isNoted c Z).1) = 0 then f_Mod_look_44 x t ((f_Mod_isNoted c Z).2) (c + 1) else f_Mod_look_44 x t (f_Mod_look_71 x 11 ((f_Mod_isNoted c Z).2) c 0) (c + 1)
set_option maxRecDepth 4000 in
theorem w_Mod_look_44 {g : GG} {Q : QT} {h : Hp} {kc ks : Nat} (hst : (gl g).stackTraces = false) {A : Nat → Nat} (hnd : (gK (moL g A)).Nodup) (x : Int32)  (t : Nat) : ∀ (Z : Nat → Nat → Int32) (c : Nat) (hw : wfM Z) (hN : NtM Z) (hc9 : c ≤ 10) (hlt : 10 - c < t) (hk : PW g M_Mod_look 7 kc ks Q 108 [.ref (A 100), .int (x), .retAddr 0, .retAddr 0, .retAddr 0, .retAddr 0, .retAddr 0] [] (ov h (gO (moL g A) (f_Mod_look_44 x t Z c)))), PW g M_Mod_look 7 kc ks Q 44 [.ref (A 100), .int (x), .int (nI (c)), .retAddr 0, .retAddr 0, .retAddr 0, .retAddr 0] [] (ov h (gO (moL g A) Z)) := by
  induction t with
  | zero => intro Z c hw hN hc9 hlt _; exact absurd hlt (Nat.not_lt_zero _)
  | succ t ih =>
    intro Z c hw hN hc9 hlt hk
    have hz0 := hw.blk.2
    have hz1 := hw.lnk.2
    have hz2 := hw.dvs.2
    refine pw_iload_n e_Mod_look_44 rfl ?_
    refine pw_bipush (v := nI 10) e_Mod_look_45 (by decide) ?_
    refine pw_icmp_geN (tgt := 108) e_Mod_look_47 (by decide) (by omega) (by omega) (fun (H1 : 10 ≤ c) => ?_) (fun (H1 : c < 10) => ?_)
    · refine pw_fgt (ls' := [.ref (A 100), .int (x), .retAddr 0, .retAddr 0, .retAddr 0, .retAddr 0, .retAddr 0]) ⟨Or.inr rfl, Or.inr rfl, Or.inl rfl, Or.inr rfl, Or.inr rfl, Or.inr rfl, Or.inr rfl, trivial⟩ ?_
      rw [f_Mod_look_44, if_pos H1] at hk
      exact hk
    · refine pw_aload_n e_Mod_look_50 rfl ?_
      refine pw_iload_n e_Mod_look_51 rfl ?_
      refine pw_detV (As := [.int (nI (c))]) e_Mod_look_52 li_Mod_447 rfl (gO_get hnd (i := 0) rfl) (q_Mod_isCause hst hnd c (by omega) Z (gO_in hnd (fun _ z => z)) hw) rfl (by decide) (Nat.le_of_ble_eq_true rfl) rfl ?_
      refine pw_if_eq (tgt := 102) e_Mod_look_55 (by decide) (fun (H2 : (f_Mod_isCause c Z) = 0) => ?_) (fun (H2 : ¬ (f_Mod_isCause c Z) = 0) => ?_)
      · refine pw_iincN (ls2 := [_, _, _, _, _, _, _]) e_Mod_look_102 rfl (by decide) rfl ?_
        refine pw_goto (tgt := 44) e_Mod_look_105 (by decide) ?_
        refine ih Z (c + 1) hw hN (by omega) (by omega) ?_
        rw [f_Mod_look_44, if_neg (Nat.not_le.mpr H1), if_pos H2] at hk
        exact hk
      · refine pw_aload_n e_Mod_look_58 rfl ?_
        refine pw_iload_n e_Mod_look_59 rfl ?_
        refine pw_detV (As := [.int (nI (c))]) e_Mod_look_60 li_Mod_450 rfl (gO_get hnd (i := 0) rfl) (q_Mod_isNoted hst hnd c (by omega) Z (gO_in hnd (fun _ z => z)) hw hN) rfl (by decide) (Nat.le_of_ble_eq_true rfl) rfl ?_
        refine pw_sameG hnd ?_
        refine pw_if_ne (tgt := 69) e_Mod_look_63 (by decide) (fun (H3 : ¬ ((f_Mod_isNoted c Z).1) = 0) => ?_) (fun (H3 : ((f_Mod_isNoted c Z).1) = 0) => ?_)
        · refine pw_iconst (v := nI 0) e_Mod_look_69 (by decide) ?_
          refine pw_istore_n (ls2 := [_, _, _, _, _, _, _]) e_Mod_look_70 (by decide) rfl ?_
          refine w_Mod_look_71 hst hnd x 11 ((f_Mod_isNoted c Z).2) c 0 (z_isNoted hw) (n_isNoted hN) (by omega) (by omega) (by omega) ?_
          refine pw_iincN (ls2 := [_, _, _, _, _, _, _]) e_Mod_look_102 rfl (by decide) rfl ?_
          refine pw_goto (tgt := 44) e_Mod_look_105 (by decide) ?_
          refine ih (f_Mod_look_71 x 11 ((f_Mod_isNoted c Z).2) c 0) (c + 1) (z_look_71 _ _ _ (z_isNoted hw)) (n_look_71 _ _ _ (n_isNoted hN)) (by omega) (by omega) ?_
          rw [f_Mod_look_44, if_neg (Nat.not_le.mpr H1), if_neg H2, if_neg H3] at hk
          exact hk
        · refine pw_goto (tgt := 102) e_Mod_look_66 (by decide) ?_
          refine pw_iincN (ls2 := [_, _, _, _, _, _, _]) e_Mod_look_102 rfl (by decide) rfl ?_
          refine pw_goto (tgt := 44) e_Mod_look_105 (by decide) ?_
          refine ih ((f_Mod_isNoted c Z).2) (c + 1) (z_isNoted hw) (n_isNoted hN) (by omega) (by omega) ?_
          rw [f_Mod_look_44, if_neg (Nat.not_le.mpr H1), if_neg H2, if_pos H3] at hk
          exact hk
theorem z_look_44 {x : Int32} : ∀ (t : Nat) {Z : Nat → Nat → Int32} (c : Nat) (h : wfM Z), wfM (f_Mod_look_44 x t Z c) := by
  intro t
  induction t with
  | zero => intro Z c h; exact h
  | succ t ih =>
    intro Z c h
    rw [f_Mod_look_44]
    repeat' split
    all_goals repeat (first | exact h | apply ih | apply z_look_71 | apply z_isNoted | apply wfM.up0 | refine wfM.u100 ?_ (by decide) | refine wfM.uk ?_ (by decide))
def f_Mod_look_23 (x : Int32) : Nat → (Nat → Nat → Int32) → (Nat) → (Nat → Nat → Int32)
  | 0, Z, _ => Z
  | t + 1, Z, b => if 10 ≤ b then Z else f_Mod_look_23 x t (u2 Z 74 b 0) (b + 1)
set_option maxRecDepth 4000 in
theorem w_Mod_look_23 {g : GG} {Q : QT} {h : Hp} {kc ks : Nat} (hst : (gl g).stackTraces = false) {A : Nat → Nat} (hnd : (gK (moL g A)).Nodup) (x : Int32)  (t : Nat) : ∀ (Z : Nat → Nat → Int32) (b : Nat) (hw : wfM Z) (hN : NtM Z) (hb9 : b ≤ 10) (hlt : 10 - b < t) (hk : PW g M_Mod_look 7 kc ks Q 42 [.ref (A 100), .int (x), .retAddr 0, .retAddr 0, .retAddr 0, .retAddr 0, .retAddr 0] [] (ov h (gO (moL g A) (f_Mod_look_23 x t Z b)))), PW g M_Mod_look 7 kc ks Q 23 [.ref (A 100), .int (x), .int (nI (b)), .retAddr 0, .retAddr 0, .retAddr 0, .retAddr 0] [] (ov h (gO (moL g A) Z)) := by
  induction t with
  | zero => intro Z b hw hN hb9 hlt _; exact absurd hlt (Nat.not_lt_zero _)
  | succ t ih =>
    intro Z b hw hN hb9 hlt hk
    have hz0 := hw.blk.2
    have hz1 := hw.lnk.2
    have hz2 := hw.dvs.2
    refine pw_iload_n e_Mod_look_23 rfl ?_
    refine pw_bipush (v := nI 10) e_Mod_look_24 (by decide) ?_
    refine pw_icmp_geN (tgt := 42) e_Mod_look_26 (by decide) (by omega) (by omega) (fun (H1 : 10 ≤ b) => ?_) (fun (H1 : b < 10) => ?_)
    · refine pw_fgt (ls' := [.ref (A 100), .int (x), .retAddr 0, .retAddr 0, .retAddr 0, .retAddr 0, .retAddr 0]) ⟨Or.inr rfl, Or.inr rfl, Or.inl rfl, Or.inr rfl, Or.inr rfl, Or.inr rfl, Or.inr rfl, trivial⟩ ?_
      rw [f_Mod_look_23, if_pos H1] at hk
      exact hk
    · refine pw_aload_n e_Mod_look_29 rfl ?_
      refine pw_getf e_Mod_look_30 fl_Mod_150 (gO_get hnd (i := 0) rfl) rfl ?_
      refine pw_iload_n e_Mod_look_33 rfl ?_
      refine pw_iconst (v := nI 0) e_Mod_look_34 (by decide) ?_
      refine pw_iastG (i := 42) e_Mod_look_35 hnd (mo_x _ _) rfl (by omega) (by decide) ?_
      refine pw_iincN (ls2 := [_, _, _, _, _, _, _]) e_Mod_look_36 rfl (by decide) rfl ?_
      refine pw_goto (tgt := 23) e_Mod_look_39 (by decide) ?_
      refine ih (u2 Z 74 b 0) (b + 1) (wfM.uk (k := 74) hw (by decide)) hN (by omega) (by omega) ?_
      rw [f_Mod_look_23, if_neg (Nat.not_le.mpr H1)] at hk
      exact hk
theorem z_look_23 {x : Int32} : ∀ (t : Nat) {Z : Nat → Nat → Int32} (b : Nat) (h : wfM Z), wfM (f_Mod_look_23 x t Z b) := by
  intro t
  induction t with
  | zero => intro Z b h; exact h
  | succ t ih =>
    intro Z b h
    rw [f_Mod_look_23]
    repeat' split
    all_goals repeat (first | exact h | apply ih | apply wfM.up0 | refine wfM.u100 ?_ (by decide) | refine wfM.uk ?_ (by decide))
theorem n_look_23 {x : Int32} : ∀ (t : Nat) {Z : Nat → Nat → Int32} (b : Nat) (h : NtM Z), NtM (f_Mod_look_23 x t Z b) := by
  intro t
  induction t with
  | zero => intro Z b h; exact h
  | succ t ih =>
    intro Z b h
    rw [f_Mod_look_23]
    repeat' split
    all_goals repeat (first | exact h | apply ih | apply NtM.up0 | refine NtM.u100 ?_ (by decide) | refine NtM.uk ?_ (by decide))
def f_Mod_look_21 (x : Int32) (Z : Nat → Nat → Int32) : Int32 × (Nat → Nat → Int32) :=
  f_Mod_look_115 x 11 (f_Mod_look_44 x 11 (f_Mod_look_23 x 11 Z 0) 0) ((-1)) 0 0
set_option maxRecDepth 4000 in
theorem w_Mod_look_21 {g : GG} {Q : QT} {h : Hp} {kc ks : Nat} (hst : (gl g).stackTraces = false) {A : Nat → Nat} (hnd : (gK (moL g A)).Nodup) (x : Int32)  (Z : Nat → Nat → Int32) (hw : wfM Z) (hN : NtM Z) (hk : Q (.inl (some (.int (f_Mod_look_21 x Z).1))) (ov h (gO (moL g A) ((f_Mod_look_21 x Z).2)))) : PW g M_Mod_look 7 kc ks Q 21 [.ref (A 100), .int (x), .retAddr 0, .retAddr 0, .retAddr 0, .retAddr 0, .retAddr 0] [] (ov h (gO (moL g A) Z)) := by
  have hz0 := hw.blk.2
  have hz1 := hw.lnk.2
  have hz2 := hw.dvs.2
  refine pw_iconst (v := nI 0) e_Mod_look_21 (by decide) ?_
  refine pw_istore_n (ls2 := [_, _, _, _, _, _, _]) e_Mod_look_22 (by decide) rfl ?_
  refine w_Mod_look_23 hst hnd x 11 Z 0 hw hN (by omega) (by omega) ?_
  refine pw_iconst (v := nI 0) e_Mod_look_42 (by decide) ?_
  refine pw_istore_n (ls2 := [_, _, _, _, _, _, _]) e_Mod_look_43 (by decide) rfl ?_
  refine w_Mod_look_44 hst hnd x 11 (f_Mod_look_23 x 11 Z 0) 0 (z_look_23 _ _ hw) (n_look_23 _ _ hN) (by omega) (by omega) ?_
  refine pw_iconst (v := (-1)) e_Mod_look_108 (by decide) ?_
  refine pw_istore_n (ls2 := [_, _, _, _, _, _, _]) e_Mod_look_109 (by decide) rfl ?_
  refine pw_iconst (v := nI 0) e_Mod_look_110 (by decide) ?_
  refine pw_istore_n (ls2 := [_, _, _, _, _, _, _]) e_Mod_look_111 (by decide) rfl ?_
  refine pw_iconst (v := nI 0) e_Mod_look_112 (by decide) ?_
  refine pw_istore (ls2 := [_, _, _, _, _, _, _]) e_Mod_look_113 (by decide) rfl ?_
  refine w_Mod_look_115 hst hnd x 11 (f_Mod_look_44 x 11 (f_Mod_look_23 x 11 Z 0) 0) ((-1)) 0 0 (z_look_44 _ _ (z_look_23 _ _ hw)) (by omega) (by omega) ?_
  rw [f_Mod_look_21] at hk
  exact hk
def f_Mod_look (x : Int32) (Z : Nat → Nat → Int32) : Int32 × (Nat → Nat → Int32) :=
  if ((f_Mod_right (f_Mod_within x (nI 0) (nI 1)) (nI 1) (u2 Z 100 18 0)).1) = 0 then (0, (f_Mod_right (f_Mod_within x (nI 0) (nI 1)) (nI 1) (u2 Z 100 18 0)).2) else f_Mod_look_21 x ((f_Mod_right (f_Mod_within x (nI 0) (nI 1)) (nI 1) (u2 Z 100 18 0)).2)
set_option maxRecDepth 4000 in
theorem w_Mod_look_0 {g : GG} {Q : QT} {h : Hp} {kc ks : Nat} (hst : (gl g).stackTraces = false) {A : Nat → Nat} (hnd : (gK (moL g A)).Nodup) (x : Int32)  (Z : Nat → Nat → Int32) (hw : wfM Z) (hN : NtM Z) (hk : Q (.inl (some (.int (f_Mod_look x Z).1))) (ov h (gO (moL g A) ((f_Mod_look x Z).2)))) : PW g M_Mod_look 7 kc ks Q 0 [.ref (A 100), .int (x), .retAddr 0, .retAddr 0, .retAddr 0, .retAddr 0, .retAddr 0] [] (ov h (gO (moL g A) Z)) := by
  have hz0 := hw.blk.2
  have hz1 := hw.lnk.2
  have hz2 := hw.dvs.2
  refine pw_aload_n e_Mod_look_0 rfl ?_
  refine pw_iconst (v := nI 0) e_Mod_look_1 (by decide) ?_
  refine pw_putGi (i := 0) (ps := 18) (x := 0) e_Mod_look_2 fp_Mod_159 hnd (mo_x _ _) rfl (Nat.le_of_ble_eq_true rfl) rfl rfl (fun _ _ => rfl) ?_
  refine pw_aload_n e_Mod_look_5 rfl ?_
  refine pw_iload_n e_Mod_look_6 rfl ?_
  refine pw_iconst (v := nI 0) e_Mod_look_7 (by decide) ?_
  refine pw_iconst (v := nI 1) e_Mod_look_8 (by decide) ?_
  refine pw_detS (As := [.int (x), .int (nI (0)), .int (nI (1))]) e_Mod_look_9 li_Mod_312 (q_Mod_within hst x (nI 0) (nI 1)) rfl (by decide) (Nat.le_of_ble_eq_true rfl) rfl ?_
  refine pw_iconst (v := nI 1) e_Mod_look_12 (by decide) ?_
  refine pw_detV (As := [.int (f_Mod_within x (nI 0) (nI 1)), .int (nI (1))]) e_Mod_look_13 li_Mod_372 rfl (gO_get hnd (i := 0) rfl) (q_Mod_right hst hnd (f_Mod_within x (nI 0) (nI 1)) (nI 1) (u2 Z 100 18 0) (gO_in hnd (fun _ z => z))) rfl (by decide) (Nat.le_of_ble_eq_true rfl) rfl ?_
  refine pw_sameG hnd ?_
  refine pw_if_ne (tgt := 21) e_Mod_look_16 (by decide) (fun (H1 : ¬ ((f_Mod_right (f_Mod_within x (nI 0) (nI 1)) (nI 1) (u2 Z 100 18 0)).1) = 0) => ?_) (fun (H1 : ((f_Mod_right (f_Mod_within x (nI 0) (nI 1)) (nI 1) (u2 Z 100 18 0)).1) = 0) => ?_)
  · refine w_Mod_look_21 hst hnd x ((f_Mod_right (f_Mod_within x (nI 0) (nI 1)) (nI 1) (u2 Z 100 18 0)).2) (z_right (wfM.u100 (i := 18) hw (by decide))) (NtM.rt (hN.u100 (i := 18) (by decide))) ?_
    rw [f_Mod_look, if_neg H1] at hk
    exact hk
  · refine pw_iconst (v := nI 0) e_Mod_look_19 (by decide) ?_
    refine pw_iret e_Mod_look_20 rfl rfl ?_
    rw [f_Mod_look, if_pos H1] at hk
    exact hk
theorem q_Mod_look {g : GG} {h : Hp} (hst : (gl g).stackTraces = false) {A : Nat → Nat} (hnd : (gK (moL g A)).Nodup) (x : Int32)  (Z : Nat → Nat → Int32) (hm : ∀ q ∈ gO (moL g A) Z, h q.1 = some q.2) (hw : wfM Z) (hN : NtM Z) : PM g M_Mod_look 7 0 0 [.ref (A 100), .int (x)] h (RetV (some (.int (f_Mod_look x Z).1)) (ov h (gO (moL g A) ((f_Mod_look x Z).2)))) := by
  refine PM.of hst (by decide) rfl (fun v hv => ?_) (Nat.le_of_ble_eq_true rfl) ?_
  · simp only [List.mem_cons, List.not_mem_nil, or_false] at hv; rcases hv with rfl | rfl <;> rfl
  · have hq := w_Mod_look_0 (g := g) (Q := RetV (some (.int (f_Mod_look x Z).1)) (ov h (gO (moL g A) ((f_Mod_look x Z).2)))) (h := h) (kc := 0) (ks := 0) hst hnd x Z hw hN ?_
    · rw [ov_self hm] at hq; exact hq
    · exact ⟨rfl, rfl⟩

def f_Mod_draw (n : Nat) (Z : Nat → Nat → Int32) : Int32 × (Nat → Nat → Int32) :=
  (((((u2 Z 100 75 (((Z 100 75) * 1103515245) + 12345)) 100 75) >>> ((16 : Int32) &&& 31)) &&& 32767) - ((((u2 Z 100 75 (((Z 100 75) * 1103515245) + 12345)) 100 75) >>> ((16 : Int32) &&& 31)) &&& 32767) / (nI (n)) * (nI (n)), u2 Z 100 75 (((Z 100 75) * 1103515245) + 12345))
set_option maxRecDepth 4000 in
theorem w_Mod_draw_0 {g : GG} {Q : QT} {h : Hp} {kc ks : Nat} (hst : (gl g).stackTraces = false) {A : Nat → Nat} (hnd : (gK (moL g A)).Nodup) (n : Nat)  (Z : Nat → Nat → Int32) (hw : wfM Z) (hn0 : 0 < n) (hn1 : n < 32768) (hk : Q (.inl (some (.int (f_Mod_draw n Z).1))) (ov h (gO (moL g A) ((f_Mod_draw n Z).2)))) : PW g M_Mod_draw 0 kc ks Q 0 [.ref (A 100), .int (nI (n))] [] (ov h (gO (moL g A) Z)) := by
  have hz0 := hw.blk.2
  have hz1 := hw.lnk.2
  have hz2 := hw.dvs.2
  refine pw_aload_n e_Mod_draw_0 rfl ?_
  refine pw_aload_n e_Mod_draw_1 rfl ?_
  refine pw_getf e_Mod_draw_2 fl_Mod_453 (gO_get hnd (i := 0) rfl) rfl ?_
  refine pw_ldcw e_Mod_draw_5 kc_Mod_456 ?_
  refine pw_imul e_Mod_draw_8 ?_
  refine pw_sipush (v := nI 12345) e_Mod_draw_9 (by decide) ?_
  refine pw_iadd e_Mod_draw_12 ?_
  refine pw_putGi (i := 0) (ps := 75) (x := ((Z 100 75) * 1103515245) + 12345) e_Mod_draw_13 fp_Mod_453 hnd (mo_x _ _) rfl (Nat.le_of_ble_eq_true rfl) rfl rfl (fun _ _ => rfl) ?_
  refine pw_aload_n e_Mod_draw_16 rfl ?_
  refine pw_getf e_Mod_draw_17 fl_Mod_453 (gO_get hnd (i := 0) rfl) rfl ?_
  refine pw_bipush (v := nI 16) e_Mod_draw_20 (by decide) ?_
  refine pw_ishr e_Mod_draw_22 ?_
  refine pw_sipush (v := nI 32767) e_Mod_draw_23 (by decide) ?_
  refine pw_iand e_Mod_draw_26 ?_
  refine pw_iload_n e_Mod_draw_27 rfl ?_
  refine pw_irem e_Mod_draw_28 (fun q => by have := (nI_eq (a := n) (b := 0) (by omega) (by decide)).mp q; omega) ?_
  refine pw_iret e_Mod_draw_29 rfl rfl ?_
  rw [f_Mod_draw] at hk
  exact hk
theorem q_Mod_draw {g : GG} {h : Hp} (hst : (gl g).stackTraces = false) {A : Nat → Nat} (hnd : (gK (moL g A)).Nodup) (n : Nat)  (Z : Nat → Nat → Int32) (hm : ∀ q ∈ gO (moL g A) Z, h q.1 = some q.2) (hw : wfM Z) (hn0 : 0 < n) (hn1 : n < 32768) : PM g M_Mod_draw 0 0 0 [.ref (A 100), .int (nI (n))] h (RetV (some (.int (f_Mod_draw n Z).1)) (ov h (gO (moL g A) ((f_Mod_draw n Z).2)))) := by
  refine PM.of hst (by decide) rfl (fun v hv => ?_) (Nat.le_of_ble_eq_true rfl) ?_
  · simp only [List.mem_cons, List.not_mem_nil, or_false] at hv; rcases hv with rfl | rfl <;> rfl
  · have hq := w_Mod_draw_0 (g := g) (Q := RetV (some (.int (f_Mod_draw n Z).1)) (ov h (gO (moL g A) ((f_Mod_draw n Z).2)))) (h := h) (kc := 0) (ks := 0) hst hnd n Z hw hn0 hn1 ?_
    · rw [ov_self hm] at hq; exact hq
    · exact ⟨rfl, rfl⟩

def drM (n : Nat) (Z : Nat → Nat → Int32) : Nat := (f_Mod_draw n Z).1.toNatClampNeg
theorem drM_of {n : Nat} {Z : Nat → Nat → Int32} (h0 : 0 < n) (hn : n < 32768) : (f_Mod_draw n Z).1 = nI (drM n Z) ∧ drM n Z < n := by
  have key : ∃ j, (f_Mod_draw n Z).1 = nI j ∧ j < n := by
    rw [f_Mod_draw]
    dsimp only
    obtain ⟨m, hm, e⟩ := and_nI (((u2 Z 100 75 (((Z 100 75) * 1103515245) + 12345)) 100 75) >>> ((16 : Int32) &&& 31))
    rw [e, rem_nI h0 hm hn]
    exact ⟨_, rfl, Nat.mod_lt _ h0⟩
  obtain ⟨j, e, hj⟩ := key
  have e2 : drM n Z = j := by unfold drM; rw [e, nI_clamp (by omega)]
  rw [e2]; exact ⟨e, hj⟩
theorem z_draw {n : Nat} {Z : Nat → Nat → Int32} (h : wfM Z) : wfM (f_Mod_draw n Z).2 := h.u100 (by decide)
theorem q_drM {g : GG} {h : Hp} (hst : (gl g).stackTraces = false) {A : Nat → Nat} (hnd : (gK (moL g A)).Nodup) (n : Nat) (Z : Nat → Nat → Int32) (hw : wfM Z) (h0 : 0 < n) (hn : n < 32768) : PM g M_Mod_draw 0 0 0 [.ref (A 100), .int (nI n)] (ov h (gO (moL g A) Z)) (RetV (some (.int (nI (drM n Z)))) (ov (ov h (gO (moL g A) Z)) (gO (moL g A) (f_Mod_draw n Z).2))) := by
  rw [← (drM_of h0 hn).1]
  exact q_Mod_draw hst hnd n Z (gO_in hnd (fun _ z => z)) hw h0 hn
theorem bh_ex {x : Int32} {b : Nat} {Z : Nat → Nat → Int32} {c : Nat → Int32} (hw : wfM Z) : f_Mod_byHand Z b x c = -1 ∨ ∃ j, j < 4 ∧ f_Mod_byHand Z b x c = nI j := by
  by_cases H : f_Mod_byHand Z b x c = -1
  · exact Or.inl H
  · exact Or.inr ⟨_, (bh_of hw H).2.2, (bh_of hw H).2.1⟩
theorem sch4 {x : Int32} (h : x = -1 ∨ ∃ j, j < 4 ∧ x = nI j) (H : ¬ x = -1) : x = nI x.toNatClampNeg ∧ x.toNatClampNeg < 4 := by
  rcases h with e | ⟨j, hj, e⟩
  · exact absurd e H
  · rw [e, nI_clamp (by omega)]; exact ⟨rfl, hj⟩
def f_Mod_year_182  (Z : Nat → Nat → Int32) (w : Nat) (b : Nat) (v : Nat) (q : Nat) : (Nat → Nat → Int32) :=
  u2 Z 0 ((210 + 8 * b) + q) (nI (v))
set_option maxRecDepth 4000 in
theorem w_Mod_year_182 {g : GG} {Q : QT} {h : Hp} {kc ks : Nat} (hst : (gl g).stackTraces = false) {A : Nat → Nat} (hnd : (gK (moL g A)).Nodup)  (Z : Nat → Nat → Int32) (w : Nat) (b : Nat) (v : Nat) (q : Nat) (hw : wfM Z) (hb : b < 10) (hq : q < 4) (hk : Q (.inl none) (ov h (gO (moL g A) (f_Mod_year_182  Z w b v q)))) : PW g M_Mod_year 7 kc ks Q 182 [.ref (A 100), .int (nI (w)), .int (nI (b)), .int (nI (v)), .int (nI (q))] [] (ov h (gO (moL g A) Z)) := by
  have hz0 := hw.blk.2
  have hz1 := hw.lnk.2
  have hz2 := hw.dvs.2
  refine pw_aload_n e_Mod_year_182 rfl ?_
  refine pw_getf e_Mod_year_183 fl_Mod_9 (gO_get hnd (i := 0) rfl) rfl ?_
  refine pw_sipush (v := nI 210) e_Mod_year_186 (by decide) ?_
  refine pw_iload_n e_Mod_year_189 rfl ?_
  refine pw_detS (As := [.int (nI (210)), .int (nI (b))]) e_Mod_year_190 li_Mod_193 (q_at hst 210 b) rfl (by decide) (Nat.le_of_ble_eq_true rfl) rfl ?_
  refine pw_iload e_Mod_year_193 rfl ?_
  refine pw_iaddN e_Mod_year_195 ?_
  refine pw_iload_n e_Mod_year_196 rfl ?_
  refine pw_iastG (i := 1) e_Mod_year_197 hnd (mo_x _ _) rfl (by omega) (by decide) ?_
  refine pw_vret e_Mod_year_198 rfl ?_
  rw [f_Mod_year_182] at hk
  exact hk
def f_Mod_year_171  (Z : Nat → Nat → Int32) (w : Nat) (b : Nat) (v : Nat) (wh : Int32) : (Nat → Nat → Int32) :=
  if w = 5 then if wh = ((-1)) then Z else f_Mod_year_182  Z w b v wh.toNatClampNeg else Z
set_option maxRecDepth 4000 in
theorem w_Mod_year_171 {g : GG} {Q : QT} {h : Hp} {kc ks : Nat} (hst : (gl g).stackTraces = false) {A : Nat → Nat} (hnd : (gK (moL g A)).Nodup)  (Z : Nat → Nat → Int32) (w : Nat) (b : Nat) (v : Nat) (wh : Int32) (hw : wfM Z) (hb : b < 10) (hw6 : w < 6) (hwh : wh = -1 ∨ ∃ j, j < 4 ∧ wh = nI j) (hk : Q (.inl none) (ov h (gO (moL g A) (f_Mod_year_171  Z w b v wh)))) : PW g M_Mod_year 7 kc ks Q 171 [.ref (A 100), .int (nI (w)), .int (nI (b)), .int (nI (v)), .int (wh)] [] (ov h (gO (moL g A) Z)) := by
  have hz0 := hw.blk.2
  have hz1 := hw.lnk.2
  have hz2 := hw.dvs.2
  refine pw_iload_n e_Mod_year_171 rfl ?_
  refine pw_iconst (v := nI 5) e_Mod_year_172 (by decide) ?_
  refine pw_icmp_neN (tgt := 198) e_Mod_year_173 (by decide) (by omega) (by omega) (fun (H1 : ¬ w = 5) => ?_) (fun (H1 : w = 5) => ?_)
  · refine pw_vret e_Mod_year_198 rfl ?_
    rw [f_Mod_year_171, if_neg H1] at hk
    exact hk
  · refine pw_iload e_Mod_year_176 rfl ?_
    refine pw_iconst (v := (-1)) e_Mod_year_178 (by decide) ?_
    refine pw_icmp_eq (tgt := 198) e_Mod_year_179 (by decide) (fun (H2 : wh = ((-1))) => ?_) (fun (H2 : ¬ wh = ((-1))) => ?_)
    · refine pw_vret e_Mod_year_198 rfl ?_
      rw [f_Mod_year_171, if_pos H1, if_pos H2] at hk
      exact hk
    · refine pw_eqls (ls' := [.ref (A 100), .int (nI (w)), .int (nI (b)), .int (nI (v)), .int (nI (wh.toNatClampNeg))]) (by rw [← (show wh = nI (wh.toNatClampNeg) from (sch4 hwh H2).1)]) ?_
      refine w_Mod_year_182 hst hnd Z w b v wh.toNatClampNeg hw (by omega) (sch4 hwh H2).2 ?_
      rw [f_Mod_year_171, if_pos H1, if_neg H2] at hk
      exact hk
def f_Mod_year_139  (Z : Nat → Nat → Int32) (w : Nat) (b : Nat) (v : Nat) (wh : Int32) : (Nat → Nat → Int32) :=
  if w = 2 then if (f_Mod_canTarget Z 210 (nI (b)) (nI (v)) (Z 0)) = 0 then f_Mod_year_171  Z w b v wh else f_Mod_year_171  (u2 Z 0 ((210 + 8 * b) + 0) (nI (v))) w b v wh else f_Mod_year_171  Z w b v wh
set_option maxRecDepth 4000 in
theorem w_Mod_year_139 {g : GG} {Q : QT} {h : Hp} {kc ks : Nat} (hst : (gl g).stackTraces = false) {A : Nat → Nat} (hnd : (gK (moL g A)).Nodup)  (Z : Nat → Nat → Int32) (w : Nat) (b : Nat) (v : Nat) (wh : Int32) (hw : wfM Z) (hb : b < 10) (hw6 : w < 6) (hwh : wh = -1 ∨ ∃ j, j < 4 ∧ wh = nI j) (hk : Q (.inl none) (ov h (gO (moL g A) (f_Mod_year_139  Z w b v wh)))) : PW g M_Mod_year 7 kc ks Q 139 [.ref (A 100), .int (nI (w)), .int (nI (b)), .int (nI (v)), .int (wh)] [] (ov h (gO (moL g A) Z)) := by
  have hz0 := hw.blk.2
  have hz1 := hw.lnk.2
  have hz2 := hw.dvs.2
  refine pw_iload_n e_Mod_year_139 rfl ?_
  refine pw_iconst (v := nI 2) e_Mod_year_140 (by decide) ?_
  refine pw_icmp_neN (tgt := 171) e_Mod_year_141 (by decide) (by omega) (by omega) (fun (H1 : ¬ w = 2) => ?_) (fun (H1 : w = 2) => ?_)
  · refine w_Mod_year_171 hst hnd Z w b v wh hw (by omega) (by omega) hwh ?_
    rw [f_Mod_year_139, if_neg H1] at hk
    exact hk
  · refine pw_aload_n e_Mod_year_144 rfl ?_
    refine pw_sipush (v := nI 210) e_Mod_year_145 (by decide) ?_
    refine pw_iload_n e_Mod_year_148 rfl ?_
    refine pw_iload_n e_Mod_year_149 rfl ?_
    refine pw_detV (As := [.int (nI (210)), .int (nI (b)), .int (nI (v))]) e_Mod_year_150 li_Mod_410 rfl (gO_get hnd (i := 0) rfl) (q_Mod_canTarget hst (mo_at hnd) hw 210 (nI (b)) (nI (v)) (by omega) (Z 0) (gO_get hnd (i := 1) rfl)) rfl (by decide) (Nat.le_of_ble_eq_true rfl) rfl ?_
    refine pw_if_eq (tgt := 171) e_Mod_year_153 (by decide) (fun (H2 : (f_Mod_canTarget Z 210 (nI (b)) (nI (v)) (Z 0)) = 0) => ?_) (fun (H2 : ¬ (f_Mod_canTarget Z 210 (nI (b)) (nI (v)) (Z 0)) = 0) => ?_)
    · refine w_Mod_year_171 hst hnd Z w b v wh hw (by omega) (by omega) hwh ?_
      rw [f_Mod_year_139, if_pos H1, if_pos H2] at hk
      exact hk
    · refine pw_aload_n e_Mod_year_156 rfl ?_
      refine pw_getf e_Mod_year_157 fl_Mod_9 (gO_get hnd (i := 0) rfl) rfl ?_
      refine pw_sipush (v := nI 210) e_Mod_year_160 (by decide) ?_
      refine pw_iload_n e_Mod_year_163 rfl ?_
      refine pw_detS (As := [.int (nI (210)), .int (nI (b))]) e_Mod_year_164 li_Mod_193 (q_at hst 210 b) rfl (by decide) (Nat.le_of_ble_eq_true rfl) rfl ?_
      refine pw_iconst (v := nI 0) e_Mod_year_167 (by decide) ?_
      refine pw_iaddN e_Mod_year_168 ?_
      refine pw_iload_n e_Mod_year_169 rfl ?_
      refine pw_iastG (i := 1) e_Mod_year_170 hnd (mo_x _ _) rfl (by omega) (by decide) ?_
      refine w_Mod_year_171 hst hnd (u2 Z 0 ((210 + 8 * b) + 0) (nI (v))) w b v wh (wfM.uk (k := 0) hw (by decide)) (by omega) (by omega) hwh ?_
      rw [f_Mod_year_139, if_pos H1, if_neg H2] at hk
      exact hk
def f_Mod_year_103  (Z : Nat → Nat → Int32) (w : Nat) : (Nat → Nat → Int32) :=
  if w = 2 then f_Mod_year_139  ((f_Mod_draw 4 ((f_Mod_draw (pN Z 100 20) Z).2)).2) w (drM (pN Z 100 20) Z) (drM 4 ((f_Mod_draw (pN Z 100 20) Z).2)) (f_Mod_byHand ((f_Mod_draw 4 ((f_Mod_draw (pN Z 100 20) Z).2)).2) 210 (nI (drM (pN Z 100 20) Z)) (((f_Mod_draw 4 ((f_Mod_draw (pN Z 100 20) Z).2)).2) 0)) else f_Mod_year_139  ((f_Mod_draw 1001 ((f_Mod_draw (pN Z 100 20) Z).2)).2) w (drM (pN Z 100 20) Z) (drM 1001 ((f_Mod_draw (pN Z 100 20) Z).2)) (f_Mod_byHand ((f_Mod_draw 1001 ((f_Mod_draw (pN Z 100 20) Z).2)).2) 210 (nI (drM (pN Z 100 20) Z)) (((f_Mod_draw 1001 ((f_Mod_draw (pN Z 100 20) Z).2)).2) 0))
set_option maxRecDepth 4000 in
theorem w_Mod_year_103 {g : GG} {Q : QT} {h : Hp} {kc ks : Nat} (hst : (gl g).stackTraces = false) {A : Nat → Nat} (hnd : (gK (moL g A)).Nodup)  (Z : Nat → Nat → Int32) (w : Nat) (hw : wfM Z) (hw6 : w < 6) (hb0 : 0 < pN Z 100 20) (hk : Q (.inl none) (ov h (gO (moL g A) (f_Mod_year_103  Z w)))) : PW g M_Mod_year 7 kc ks Q 103 [.ref (A 100), .int (nI (w)), .retAddr 0, .retAddr 0, .retAddr 0] [] (ov h (gO (moL g A) Z)) := by
  have hz0 := hw.blk.2
  have hz1 := hw.lnk.2
  have hz2 := hw.dvs.2
  refine pw_aload_n e_Mod_year_103 rfl ?_
  refine pw_aload_n e_Mod_year_104 rfl ?_
  refine pw_getf e_Mod_year_105 fl_Mod_183 (gO_get hnd (i := 0) rfl) rfl ?_
  rw [show Z 100 20 = nI (pN Z 100 20) from hw.blk.1]
  have hb1 := (drM_of (n := (pN Z 100 20)) (Z := Z) (by omega) (by omega)).2
  refine pw_detV (As := [.int (nI (pN Z 100 20))]) e_Mod_year_108 li_Mod_457 rfl (gO_get hnd (i := 0) rfl) (q_drM hst hnd (pN Z 100 20) Z hw (by omega) (by omega)) rfl (by decide) (Nat.le_of_ble_eq_true rfl) rfl ?_
  refine pw_sameG hnd ?_
  refine pw_istore_n (ls2 := [_, _, _, _, _]) e_Mod_year_111 (by decide) rfl ?_
  refine pw_aload_n e_Mod_year_112 rfl ?_
  refine pw_iload_n e_Mod_year_113 rfl ?_
  refine pw_iconst (v := nI 2) e_Mod_year_114 (by decide) ?_
  refine pw_icmp_neN (tgt := 122) e_Mod_year_115 (by decide) (by omega) (by omega) (fun (H2 : ¬ w = 2) => ?_) (fun (H2 : w = 2) => ?_)
  · refine pw_sipush (v := nI 1001) e_Mod_year_122 (by decide) ?_
    have hb3 := (drM_of (n := 1001) (Z := ((f_Mod_draw (pN Z 100 20) Z).2)) (by omega) (by omega)).2
    refine pw_detV (As := [.int (nI (1001))]) e_Mod_year_125 li_Mod_457 rfl (gO_get hnd (i := 0) rfl) (q_drM hst hnd 1001 ((f_Mod_draw (pN Z 100 20) Z).2) (z_draw hw) (by omega) (by omega)) rfl (by decide) (Nat.le_of_ble_eq_true rfl) rfl ?_
    refine pw_sameG hnd ?_
    refine pw_istore_n (ls2 := [_, _, _, _, _]) e_Mod_year_128 (by decide) rfl ?_
    refine pw_aload_n e_Mod_year_129 rfl ?_
    refine pw_sipush (v := nI 210) e_Mod_year_130 (by decide) ?_
    refine pw_iload_n e_Mod_year_133 rfl ?_
    refine pw_detV (As := [.int (nI (210)), .int (nI (drM (pN Z 100 20) Z))]) e_Mod_year_134 li_Mod_419 rfl (gO_get hnd (i := 0) rfl) (q_Mod_byHand hst (mo_at hnd) (z_draw (z_draw hw)) 210 (nI (drM (pN Z 100 20) Z)) (by omega) (((f_Mod_draw 1001 ((f_Mod_draw (pN Z 100 20) Z).2)).2) 0) (gO_get hnd (i := 1) rfl)) rfl (by decide) (Nat.le_of_ble_eq_true rfl) rfl ?_
    refine pw_istore (ls2 := [_, _, _, _, _]) e_Mod_year_137 (by decide) rfl ?_
    refine w_Mod_year_139 hst hnd ((f_Mod_draw 1001 ((f_Mod_draw (pN Z 100 20) Z).2)).2) w (drM (pN Z 100 20) Z) (drM 1001 ((f_Mod_draw (pN Z 100 20) Z).2)) (f_Mod_byHand ((f_Mod_draw 1001 ((f_Mod_draw (pN Z 100 20) Z).2)).2) 210 (nI (drM (pN Z 100 20) Z)) (((f_Mod_draw 1001 ((f_Mod_draw (pN Z 100 20) Z).2)).2) 0)) (z_draw (z_draw hw)) (by omega) (by omega) (bh_ex (z_draw (z_draw hw))) ?_
    rw [f_Mod_year_103, if_neg H2] at hk
    exact hk
  · refine pw_iconst (v := nI 4) e_Mod_year_118 (by decide) ?_
    refine pw_goto (tgt := 125) e_Mod_year_119 (by decide) ?_
    have hb4 := (drM_of (n := 4) (Z := ((f_Mod_draw (pN Z 100 20) Z).2)) (by omega) (by omega)).2
    refine pw_detV (As := [.int (nI (4))]) e_Mod_year_125 li_Mod_457 rfl (gO_get hnd (i := 0) rfl) (q_drM hst hnd 4 ((f_Mod_draw (pN Z 100 20) Z).2) (z_draw hw) (by omega) (by omega)) rfl (by decide) (Nat.le_of_ble_eq_true rfl) rfl ?_
    refine pw_sameG hnd ?_
    refine pw_istore_n (ls2 := [_, _, _, _, _]) e_Mod_year_128 (by decide) rfl ?_
    refine pw_aload_n e_Mod_year_129 rfl ?_
    refine pw_sipush (v := nI 210) e_Mod_year_130 (by decide) ?_
    refine pw_iload_n e_Mod_year_133 rfl ?_
    refine pw_detV (As := [.int (nI (210)), .int (nI (drM (pN Z 100 20) Z))]) e_Mod_year_134 li_Mod_419 rfl (gO_get hnd (i := 0) rfl) (q_Mod_byHand hst (mo_at hnd) (z_draw (z_draw hw)) 210 (nI (drM (pN Z 100 20) Z)) (by omega) (((f_Mod_draw 4 ((f_Mod_draw (pN Z 100 20) Z).2)).2) 0) (gO_get hnd (i := 1) rfl)) rfl (by decide) (Nat.le_of_ble_eq_true rfl) rfl ?_
    refine pw_istore (ls2 := [_, _, _, _, _]) e_Mod_year_137 (by decide) rfl ?_
    refine w_Mod_year_139 hst hnd ((f_Mod_draw 4 ((f_Mod_draw (pN Z 100 20) Z).2)).2) w (drM (pN Z 100 20) Z) (drM 4 ((f_Mod_draw (pN Z 100 20) Z).2)) (f_Mod_byHand ((f_Mod_draw 4 ((f_Mod_draw (pN Z 100 20) Z).2)).2) 210 (nI (drM (pN Z 100 20) Z)) (((f_Mod_draw 4 ((f_Mod_draw (pN Z 100 20) Z).2)).2) 0)) (z_draw (z_draw hw)) (by omega) (by omega) (bh_ex (z_draw (z_draw hw))) ?_
    rw [f_Mod_year_103, if_pos H2] at hk
    exact hk
def f_Mod_year_7  (Z : Nat → Nat → Int32) (w : Nat) : (Nat → Nat → Int32) :=
  if 2 ≤ w then if w = 3 then if (f_Mod_isOn ((f_Mod_draw (pN Z 100 19) Z).2) 210 (drM (pN Z 100 19) Z) (((f_Mod_draw (pN Z 100 19) Z).2) 0)) = 0 then va_up ((f_Mod_draw (pN Z 100 19) Z).2) 0 (f_Mod_powers ((f_Mod_draw (pN Z 100 19) Z).2) 210 (nI (drM (pN Z 100 19) Z)) (nI 1) (((f_Mod_draw (pN Z 100 19) Z).2) 0)) else va_up ((f_Mod_draw (pN Z 100 19) Z).2) 0 (f_Mod_powers ((f_Mod_draw (pN Z 100 19) Z).2) 210 (nI (drM (pN Z 100 19) Z)) (nI 0) (((f_Mod_draw (pN Z 100 19) Z).2) 0)) else if w = 4 then u2 ((f_Mod_draw 4 Z).2) 0 414 (((Z 0) 414) ^^^ ((1 : Int32) <<< ((nI (drM 4 Z)) &&& 31))) else if (nI (pN Z 100 20)) ≤ 0 then Z else f_Mod_year_103  Z w else va_up ((f_Mod_draw 5 Z).2) 0 (f_Mod_goes ((f_Mod_draw 5 Z).2) 210 ((drM 5 Z) + 1) (((f_Mod_draw 5 Z).2) 0))
set_option maxRecDepth 4000 in
theorem w_Mod_year_7 {g : GG} {Q : QT} {h : Hp} {kc ks : Nat} (hst : (gl g).stackTraces = false) {A : Nat → Nat} (hnd : (gK (moL g A)).Nodup)  (Z : Nat → Nat → Int32) (w : Nat) (hw : wfM Z) (hd1 : 0 < pN Z 100 19) (hw6 : w < 6) (hk : Q (.inl none) (ov h (gO (moL g A) (f_Mod_year_7  Z w)))) : PW g M_Mod_year 7 kc ks Q 7 [.ref (A 100), .int (nI (w)), .retAddr 0, .retAddr 0, .retAddr 0] [] (ov h (gO (moL g A) Z)) := by
  have hz0 := hw.blk.2
  have hz1 := hw.lnk.2
  have hz2 := hw.dvs.2
  refine pw_iload_n e_Mod_year_7 rfl ?_
  refine pw_iconst (v := nI 2) e_Mod_year_8 (by decide) ?_
  refine pw_icmp_geN (tgt := 29) e_Mod_year_9 (by decide) (by omega) (by omega) (fun (H1 : 2 ≤ w) => ?_) (fun (H1 : w < 2) => ?_)
  · refine pw_iload_n e_Mod_year_29 rfl ?_
    refine pw_iconst (v := nI 3) e_Mod_year_30 (by decide) ?_
    refine pw_icmp_neN (tgt := 70) e_Mod_year_31 (by decide) (by omega) (by omega) (fun (H2 : ¬ w = 3) => ?_) (fun (H2 : w = 3) => ?_)
    · refine pw_iload_n e_Mod_year_70 rfl ?_
      refine pw_iconst (v := nI 4) e_Mod_year_71 (by decide) ?_
      refine pw_icmp_neN (tgt := 96) e_Mod_year_72 (by decide) (by omega) (by omega) (fun (H3 : ¬ w = 4) => ?_) (fun (H3 : w = 4) => ?_)
      · refine pw_aload_n e_Mod_year_96 rfl ?_
        refine pw_getf e_Mod_year_97 fl_Mod_183 (gO_get hnd (i := 0) rfl) rfl ?_
        rw [show Z 100 20 = nI (pN Z 100 20) from hw.blk.1]
        refine pw_if_le (tgt := 198) e_Mod_year_100 (by decide) (fun (H4 : (nI (pN Z 100 20)) ≤ 0) => ?_) (fun (H4 : ¬ (nI (pN Z 100 20)) ≤ 0) => ?_)
        · refine pw_vret e_Mod_year_198 rfl ?_
          rw [f_Mod_year_7, if_pos H1, if_neg H2, if_neg H3, if_pos H4] at hk
          exact hk
        · refine w_Mod_year_103 hst hnd Z w hw (by omega) (pos_of (by omega) (by assumption)) ?_
          rw [f_Mod_year_7, if_pos H1, if_neg H2, if_neg H3, if_neg H4] at hk
          exact hk
      · refine pw_aload_n e_Mod_year_75 rfl ?_
        refine pw_getf e_Mod_year_76 fl_Mod_9 (gO_get hnd (i := 0) rfl) rfl ?_
        refine pw_sipush (v := nI 414) e_Mod_year_79 (by decide) ?_
        refine pw_dup2 e_Mod_year_82 rfl rfl ?_
        refine pw_ialdN e_Mod_year_83 (gO_get hnd (i := 1) rfl) (by omega) (by decide) ?_
        refine pw_iconst (v := nI 1) e_Mod_year_84 (by decide) ?_
        refine pw_aload_n e_Mod_year_85 rfl ?_
        refine pw_iconst (v := nI 4) e_Mod_year_86 (by decide) ?_
        have hb5 := (drM_of (n := 4) (Z := Z) (by omega) (by omega)).2
        refine pw_detV (As := [.int (nI (4))]) e_Mod_year_87 li_Mod_457 rfl (gO_get hnd (i := 0) rfl) (q_drM hst hnd 4 Z hw (by omega) (by omega)) rfl (by decide) (Nat.le_of_ble_eq_true rfl) rfl ?_
        refine pw_sameG hnd ?_
        refine pw_ishl e_Mod_year_90 ?_
        refine pw_ixor e_Mod_year_91 ?_
        refine pw_iastG (i := 1) e_Mod_year_92 hnd (mo_x _ _) rfl (by omega) (by decide) ?_
        refine pw_goto (tgt := 198) e_Mod_year_93 (by decide) ?_
        refine pw_vret e_Mod_year_198 rfl ?_
        rw [f_Mod_year_7, if_pos H1, if_neg H2, if_pos H3] at hk
        exact hk
    · refine pw_aload_n e_Mod_year_34 rfl ?_
      refine pw_aload_n e_Mod_year_35 rfl ?_
      refine pw_getf e_Mod_year_36 fl_Mod_64 (gO_get hnd (i := 0) rfl) rfl ?_
      rw [show Z 100 19 = nI (pN Z 100 19) from hw.dvs.1]
      have hb6 := (drM_of (n := (pN Z 100 19)) (Z := Z) (by omega) (by omega)).2
      refine pw_detV (As := [.int (nI (pN Z 100 19))]) e_Mod_year_39 li_Mod_457 rfl (gO_get hnd (i := 0) rfl) (q_drM hst hnd (pN Z 100 19) Z hw (by omega) (by omega)) rfl (by decide) (Nat.le_of_ble_eq_true rfl) rfl ?_
      refine pw_sameG hnd ?_
      refine pw_istore_n (ls2 := [_, _, _, _, _]) e_Mod_year_42 (by decide) rfl ?_
      refine pw_aload_n e_Mod_year_43 rfl ?_
      refine pw_sipush (v := nI 210) e_Mod_year_44 (by decide) ?_
      refine pw_iload_n e_Mod_year_47 rfl ?_
      refine pw_aload_n e_Mod_year_48 rfl ?_
      refine pw_sipush (v := nI 210) e_Mod_year_49 (by decide) ?_
      refine pw_iload_n e_Mod_year_52 rfl ?_
      refine pw_detV (As := [.int (nI (210)), .int (nI (drM (pN Z 100 19) Z))]) e_Mod_year_53 li_Mod_205 rfl (gO_get hnd (i := 0) rfl) (q_Mod_isOn hst (mo_at hnd) (z_draw hw) 210 (drM (pN Z 100 19) Z) (by omega) (((f_Mod_draw (pN Z 100 19) Z).2) 0) (gO_get hnd (i := 1) rfl)) rfl (by decide) (Nat.le_of_ble_eq_true rfl) rfl ?_
      refine pw_if_ne (tgt := 63) e_Mod_year_56 (by decide) (fun (H7 : ¬ (f_Mod_isOn ((f_Mod_draw (pN Z 100 19) Z).2) 210 (drM (pN Z 100 19) Z) (((f_Mod_draw (pN Z 100 19) Z).2) 0)) = 0) => ?_) (fun (H7 : (f_Mod_isOn ((f_Mod_draw (pN Z 100 19) Z).2) 210 (drM (pN Z 100 19) Z) (((f_Mod_draw (pN Z 100 19) Z).2) 0)) = 0) => ?_)
      · refine pw_iconst (v := nI 0) e_Mod_year_63 (by decide) ?_
        refine pw_detV (As := [.int (nI (210)), .int (nI (drM (pN Z 100 19) Z)), .int (nI (0))]) e_Mod_year_64 li_Mod_422 rfl (gO_get hnd (i := 0) rfl) (q_Mod_powers hst (mo_at hnd) (z_draw hw) 210 (nI (drM (pN Z 100 19) Z)) (nI 0) (by omega) (((f_Mod_draw (pN Z 100 19) Z).2) 0) (gO_get hnd (i := 1) rfl)) rfl (by decide) (Nat.le_of_ble_eq_true rfl) rfl ?_
        refine pw_upG (i := 1) hnd (mo_x _ _) rfl rfl ?_
        refine pw_goto (tgt := 198) e_Mod_year_67 (by decide) ?_
        refine pw_vret e_Mod_year_198 rfl ?_
        rw [f_Mod_year_7, if_pos H1, if_pos H2, if_neg H7] at hk
        exact hk
      · refine pw_iconst (v := nI 1) e_Mod_year_59 (by decide) ?_
        refine pw_goto (tgt := 64) e_Mod_year_60 (by decide) ?_
        refine pw_detV (As := [.int (nI (210)), .int (nI (drM (pN Z 100 19) Z)), .int (nI (1))]) e_Mod_year_64 li_Mod_422 rfl (gO_get hnd (i := 0) rfl) (q_Mod_powers hst (mo_at hnd) (z_draw hw) 210 (nI (drM (pN Z 100 19) Z)) (nI 1) (by omega) (((f_Mod_draw (pN Z 100 19) Z).2) 0) (gO_get hnd (i := 1) rfl)) rfl (by decide) (Nat.le_of_ble_eq_true rfl) rfl ?_
        refine pw_upG (i := 1) hnd (mo_x _ _) rfl rfl ?_
        refine pw_goto (tgt := 198) e_Mod_year_67 (by decide) ?_
        refine pw_vret e_Mod_year_198 rfl ?_
        rw [f_Mod_year_7, if_pos H1, if_pos H2, if_pos H7] at hk
        exact hk
  · refine pw_aload_n e_Mod_year_12 rfl ?_
    refine pw_sipush (v := nI 210) e_Mod_year_13 (by decide) ?_
    refine pw_aload_n e_Mod_year_16 rfl ?_
    refine pw_iconst (v := nI 5) e_Mod_year_17 (by decide) ?_
    have hb8 := (drM_of (n := 5) (Z := Z) (by omega) (by omega)).2
    refine pw_detV (As := [.int (nI (5))]) e_Mod_year_18 li_Mod_457 rfl (gO_get hnd (i := 0) rfl) (q_drM hst hnd 5 Z hw (by omega) (by omega)) rfl (by decide) (Nat.le_of_ble_eq_true rfl) rfl ?_
    refine pw_sameG hnd ?_
    refine pw_iconst (v := nI 1) e_Mod_year_21 (by decide) ?_
    refine pw_iaddN e_Mod_year_22 ?_
    refine pw_detV (As := [.int (nI (210)), .int (nI ((drM 5 Z) + 1))]) e_Mod_year_23 li_Mod_426 rfl (gO_get hnd (i := 0) rfl) (q_Mod_goes hst (mo_at hnd) (z_draw hw) 210 ((drM 5 Z) + 1) (by omega) (by omega) (((f_Mod_draw 5 Z).2) 0) (gO_get hnd (i := 1) rfl)) rfl (by decide) (Nat.le_of_ble_eq_true rfl) rfl ?_
    refine pw_upG (i := 1) hnd (mo_x _ _) rfl rfl ?_
    refine pw_goto (tgt := 198) e_Mod_year_26 (by decide) ?_
    refine pw_vret e_Mod_year_198 rfl ?_
    rw [f_Mod_year_7, if_neg (Nat.not_le.mpr H1)] at hk
    exact hk
def f_Mod_year  (Z : Nat → Nat → Int32) : (Nat → Nat → Int32) :=
  f_Mod_year_7  ((f_Mod_draw 6 Z).2) (drM 6 Z)
set_option maxRecDepth 4000 in
theorem w_Mod_year_0 {g : GG} {Q : QT} {h : Hp} {kc ks : Nat} (hst : (gl g).stackTraces = false) {A : Nat → Nat} (hnd : (gK (moL g A)).Nodup)  (Z : Nat → Nat → Int32) (hw : wfM Z) (hd1 : 0 < pN Z 100 19) (hk : Q (.inl none) (ov h (gO (moL g A) (f_Mod_year  Z)))) : PW g M_Mod_year 7 kc ks Q 0 [.ref (A 100), .retAddr 0, .retAddr 0, .retAddr 0, .retAddr 0] [] (ov h (gO (moL g A) Z)) := by
  have hz0 := hw.blk.2
  have hz1 := hw.lnk.2
  have hz2 := hw.dvs.2
  refine pw_aload_n e_Mod_year_0 rfl ?_
  refine pw_bipush (v := nI 6) e_Mod_year_1 (by decide) ?_
  have hb1 := (drM_of (n := 6) (Z := Z) (by omega) (by omega)).2
  refine pw_detV (As := [.int (nI (6))]) e_Mod_year_3 li_Mod_457 rfl (gO_get hnd (i := 0) rfl) (q_drM hst hnd 6 Z hw (by omega) (by omega)) rfl (by decide) (Nat.le_of_ble_eq_true rfl) rfl ?_
  refine pw_sameG hnd ?_
  refine pw_istore_n (ls2 := [_, _, _, _, _]) e_Mod_year_6 (by decide) rfl ?_
  refine w_Mod_year_7 hst hnd ((f_Mod_draw 6 Z).2) (drM 6 Z) (z_draw hw) (by exact hd1) (by omega) ?_
  rw [f_Mod_year] at hk
  exact hk
theorem q_Mod_year {g : GG} {h : Hp} (hst : (gl g).stackTraces = false) {A : Nat → Nat} (hnd : (gK (moL g A)).Nodup)  (Z : Nat → Nat → Int32) (hm : ∀ q ∈ gO (moL g A) Z, h q.1 = some q.2) (hw : wfM Z) (hd1 : 0 < pN Z 100 19) : PM g M_Mod_year 7 0 0 [.ref (A 100)] h (RetV none (ov h (gO (moL g A) (f_Mod_year  Z)))) := by
  refine PM.of hst (by decide) rfl (fun v hv => ?_) (Nat.le_of_ble_eq_true rfl) ?_
  · simp only [List.mem_cons, List.not_mem_nil, or_false] at hv; rcases hv with rfl <;> rfl
  · have hq := w_Mod_year_0 (g := g) (Q := RetV none (ov h (gO (moL g A) (f_Mod_year  Z)))) (h := h) (kc := 0) (ks := 0) hst hnd Z hw hd1 ?_
    · rw [ov_self hm] at hq; exact hq
    · exact ⟨rfl, rfl⟩

theorem yr_keep (Z : Nat → Nat → Int32) : (∀ k, k ≠ 0 → k ≠ 100 → f_Mod_year Z k = Z k) ∧ ∀ i, i ≠ 75 → f_Mod_year Z 100 i = Z 100 i := by
  refine ⟨fun k h0 h1 => ?_, fun i hi => ?_⟩
  all_goals
    rw [f_Mod_year, f_Mod_year_7]
    repeat' split
    all_goals try rw [f_Mod_year_103]
    all_goals try (split <;> rw [f_Mod_year_139])
    all_goals repeat' split
    all_goals try rw [f_Mod_year_171]
    all_goals repeat' split
    all_goals try rw [f_Mod_year_182]
    all_goals simp [f_Mod_draw, u2, va_up, upd, *]
theorem z_year {Z : Nat → Nat → Int32} (h : wfM Z) : wfM (f_Mod_year Z) :=
  h.of ((yr_keep Z).1 _ (by decide) (by decide)) ((yr_keep Z).1 _ (by decide) (by decide)) ((yr_keep Z).1 _ (by decide) (by decide)) ((yr_keep Z).1 _ (by decide) (by decide)) ((yr_keep Z).1 _ (by decide) (by decide)) ((yr_keep Z).1 _ (by decide) (by decide)) ((yr_keep Z).1 _ (by decide) (by decide)) ((yr_keep Z).1 _ (by decide) (by decide)) ((yr_keep Z).1 _ (by decide) (by decide)) ((yr_keep Z).2 _ (by decide)) ((yr_keep Z).2 _ (by decide)) ((yr_keep Z).2 _ (by decide))
theorem d1_year {Z : Nat → Nat → Int32} (h : 0 < pN Z 100 19) : 0 < pN (f_Mod_year Z) 100 19 := by
  unfold pN at *; rw [(yr_keep Z).2 _ (by decide)]; exact h
theorem d1_rt {x y : Int32} {Z : Nat → Nat → Int32} (h : 0 < pN Z 100 19) : 0 < pN (f_Mod_right x y Z).2 100 19 := by
  unfold pN at *; rw [rt_100 (by decide)]; exact h
def f_Mod_years_108 (x : Int32) (y : Int32) (z : Int32) : Nat → (Nat → Nat → Int32) → (Nat) → (Int32) → (Nat) → Int32 × (Nat → Nat → Int32)
  | 0, Z, _, _, _ => (0, Z)
  | t + 1, Z, n, sm, b => if (pN Z 100 20) ≤ b then (sm, Z) else f_Mod_years_108 x y z t Z n (sm + ((Z 0) ((210 + 8 * b) + 3))) (b + 1)
set_option maxRecDepth 4000 in
theorem w_Mod_years_108 {g : GG} {Q : QT} {h : Hp} {kc ks : Nat} (hst : (gl g).stackTraces = false) {A : Nat → Nat} (hnd : (gK (moL g A)).Nodup) (x : Int32) (y : Int32) (z : Int32)  (t : Nat) : ∀ (Z : Nat → Nat → Int32) (n : Nat) (sm : Int32) (b : Nat) (hw : wfM Z) (hb9 : b ≤ 10) (hlt : 10 - b < t) (hk : Q (.inl (some (.int (f_Mod_years_108 x y z t Z n sm b).1))) (ov h (gO (moL g A) ((f_Mod_years_108 x y z t Z n sm b).2)))), PW g M_Mod_years 8 kc ks Q 108 [.ref (A 100), .int (x), .int (nI (n)), .int (z), .int (sm), .int (nI (b))] [] (ov h (gO (moL g A) Z)) := by
  induction t with
  | zero => intro Z n sm b hw hb9 hlt _; exact absurd hlt (Nat.not_lt_zero _)
  | succ t ih =>
    intro Z n sm b hw hb9 hlt hk
    have hz0 := hw.blk.2
    have hz1 := hw.lnk.2
    have hz2 := hw.dvs.2
    refine pw_iload e_Mod_years_108 rfl ?_
    refine pw_aload_n e_Mod_years_110 rfl ?_
    refine pw_getf e_Mod_years_111 fl_Mod_183 (gO_get hnd (i := 0) rfl) rfl ?_
    rw [show Z 100 20 = nI (pN Z 100 20) from hw.blk.1]
    refine pw_icmp_geN (tgt := 143) e_Mod_years_114 (by decide) (by omega) (by omega) (fun (H1 : (pN Z 100 20) ≤ b) => ?_) (fun (H1 : b < (pN Z 100 20)) => ?_)
    · refine pw_iload e_Mod_years_143 rfl ?_
      refine pw_iret e_Mod_years_145 rfl rfl ?_
      rw [f_Mod_years_108, if_pos H1] at hk
      exact hk
    · refine pw_iload e_Mod_years_117 rfl ?_
      refine pw_aload_n e_Mod_years_119 rfl ?_
      refine pw_getf e_Mod_years_120 fl_Mod_9 (gO_get hnd (i := 0) rfl) rfl ?_
      refine pw_sipush (v := nI 210) e_Mod_years_123 (by decide) ?_
      refine pw_iload e_Mod_years_126 rfl ?_
      refine pw_detS (As := [.int (nI (210)), .int (nI (b))]) e_Mod_years_128 li_Mod_193 (q_at hst 210 b) rfl (by decide) (Nat.le_of_ble_eq_true rfl) rfl ?_
      refine pw_iconst (v := nI 3) e_Mod_years_131 (by decide) ?_
      refine pw_iaddN e_Mod_years_132 ?_
      refine pw_ialdN e_Mod_years_133 (gO_get hnd (i := 1) rfl) (by omega) (by decide) ?_
      refine pw_iadd e_Mod_years_134 ?_
      refine pw_istore (ls2 := [_, _, _, _, _, _]) e_Mod_years_135 (by decide) rfl ?_
      refine pw_iincN (ls2 := [_, _, _, _, _, _]) e_Mod_years_137 rfl (by decide) rfl ?_
      refine pw_goto (tgt := 108) e_Mod_years_140 (by decide) ?_
      refine ih Z n (sm + ((Z 0) ((210 + 8 * b) + 3))) (b + 1) hw (by omega) (by omega) ?_
      rw [f_Mod_years_108, if_neg (Nat.not_le.mpr H1)] at hk
      exact hk
def f_Mod_years_48 (x : Int32) (y : Int32) (z : Int32) : Nat → (Nat → Nat → Int32) → (Nat) → (Nat) → (Nat → Nat → Int32)
  | 0, Z, _, _ => Z
  | t + 1, Z, n, k => if n ≤ k then Z else f_Mod_years_48 x y z t (f_Mod_year Z) n (k + 1)
set_option maxRecDepth 4000 in
theorem w_Mod_years_48 {g : GG} {Q : QT} {h : Hp} {kc ks : Nat} (hst : (gl g).stackTraces = false) {A : Nat → Nat} (hnd : (gK (moL g A)).Nodup) (x : Int32) (y : Int32) (z : Int32)  (t : Nat) : ∀ (Z : Nat → Nat → Int32) (n : Nat) (k : Nat) (hw : wfM Z) (hd1 : 0 < pN Z 100 19) (hn : n < 31) (hk9 : k ≤ n) (hlt : n - k < t) (hk : PW g M_Mod_years 8 kc ks Q 64 [.ref (A 100), .int (x), .int (nI (n)), .int (z), .retAddr 0, .retAddr 0] [] (ov h (gO (moL g A) (f_Mod_years_48 x y z t Z n k)))), PW g M_Mod_years 8 kc ks Q 48 [.ref (A 100), .int (x), .int (nI (n)), .int (z), .int (nI (k)), .retAddr 0] [] (ov h (gO (moL g A) Z)) := by
  induction t with
  | zero => intro Z n k hw hd1 hn hk9 hlt _; exact absurd hlt (Nat.not_lt_zero _)
  | succ t ih =>
    intro Z n k hw hd1 hn hk9 hlt hk
    have hz0 := hw.blk.2
    have hz1 := hw.lnk.2
    have hz2 := hw.dvs.2
    refine pw_iload e_Mod_years_48 rfl ?_
    refine pw_iload_n e_Mod_years_50 rfl ?_
    refine pw_icmp_geN (tgt := 64) e_Mod_years_51 (by decide) (by omega) (by omega) (fun (H1 : n ≤ k) => ?_) (fun (H1 : k < n) => ?_)
    · refine pw_fgt (ls' := [.ref (A 100), .int (x), .int (nI (n)), .int (z), .retAddr 0, .retAddr 0]) ⟨Or.inr rfl, Or.inr rfl, Or.inr rfl, Or.inr rfl, Or.inl rfl, Or.inr rfl, trivial⟩ ?_
      rw [f_Mod_years_48, if_pos H1] at hk
      exact hk
    · refine pw_aload_n e_Mod_years_54 rfl ?_
      refine pw_detV (As := []) e_Mod_years_55 li_Mod_460 rfl (gO_get hnd (i := 0) rfl) (q_Mod_year hst hnd Z (gO_in hnd (fun _ z => z)) hw hd1) rfl (by decide) (Nat.le_of_ble_eq_true rfl) rfl ?_
      refine pw_sameG hnd ?_
      refine pw_iincN (ls2 := [_, _, _, _, _, _]) e_Mod_years_58 rfl (by decide) rfl ?_
      refine pw_goto (tgt := 48) e_Mod_years_61 (by decide) ?_
      refine ih (f_Mod_year Z) n (k + 1) (z_year hw) (d1_year hd1) (by omega) (by omega) (by omega) ?_
      rw [f_Mod_years_48, if_neg (Nat.not_le.mpr H1)] at hk
      exact hk
theorem z_years_48 {x : Int32} {y : Int32} {z : Int32} : ∀ (t : Nat) {Z : Nat → Nat → Int32} (n : Nat) (k : Nat) (h : wfM Z), wfM (f_Mod_years_48 x y z t Z n k) := by
  intro t
  induction t with
  | zero => intro Z n k h; exact h
  | succ t ih =>
    intro Z n k h
    rw [f_Mod_years_48]
    repeat' split
    all_goals repeat (first | exact h | apply ih | apply z_year | apply wfM.up0 | refine wfM.u100 ?_ (by decide) | refine wfM.uk ?_ (by decide))
def f_Mod_years_36 (x : Int32) (y : Int32) (z : Int32) (Z : Nat → Nat → Int32) (n : Nat) : Int32 × (Nat → Nat → Int32) :=
  if z ≤ 0 then f_Mod_years_108 x y z 11 (f_Mod_years_48 x y z 31 (u2 (va_up Z 0 (f_Mod_tries Z (Z 0))) 100 75 x) n 0) n 0 0 else if z = 1 then (((f_Mod_years_48 x y z 31 (u2 (va_up Z 0 (f_Mod_tries Z (Z 0))) 100 75 x) n 0) 0) 415, f_Mod_years_48 x y z 31 (u2 (va_up Z 0 (f_Mod_tries Z (Z 0))) 100 75 x) n 0) else ((((f_Mod_years_48 x y z 31 (u2 (va_up Z 0 (f_Mod_tries Z (Z 0))) 100 75 x) n 0) 0) 419) - (((f_Mod_years_48 x y z 31 (u2 (va_up Z 0 (f_Mod_tries Z (Z 0))) 100 75 x) n 0) 0) 209), f_Mod_years_48 x y z 31 (u2 (va_up Z 0 (f_Mod_tries Z (Z 0))) 100 75 x) n 0)
set_option maxRecDepth 4000 in
theorem w_Mod_years_36 {g : GG} {Q : QT} {h : Hp} {kc ks : Nat} (hst : (gl g).stackTraces = false) {A : Nat → Nat} (hnd : (gK (moL g A)).Nodup) (x : Int32) (y : Int32) (z : Int32)  (Z : Nat → Nat → Int32) (n : Nat) (hw : wfM Z) (hd1 : 0 < pN Z 100 19) (hn : n < 31) (hk : Q (.inl (some (.int (f_Mod_years_36 x y z Z n).1))) (ov h (gO (moL g A) ((f_Mod_years_36 x y z Z n).2)))) : PW g M_Mod_years 8 kc ks Q 36 [.ref (A 100), .int (x), .int (nI (n)), .int (z), .retAddr 0, .retAddr 0] [] (ov h (gO (moL g A) Z)) := by
  have hz0 := hw.blk.2
  have hz1 := hw.lnk.2
  have hz2 := hw.dvs.2
  refine pw_aload_n e_Mod_years_36 rfl ?_
  refine pw_detV (As := []) e_Mod_years_37 li_Mod_429 rfl (gO_get hnd (i := 0) rfl) (q_Mod_tries hst (mo_at hnd) hw  (Z 0) (gO_get hnd (i := 1) rfl)) rfl (by decide) (Nat.le_of_ble_eq_true rfl) rfl ?_
  refine pw_upG (i := 1) hnd (mo_x _ _) rfl rfl ?_
  refine pw_aload_n e_Mod_years_40 rfl ?_
  refine pw_iload_n e_Mod_years_41 rfl ?_
  refine pw_putGi (i := 0) (ps := 75) (x := x) e_Mod_years_42 fp_Mod_453 hnd (mo_x _ _) rfl (Nat.le_of_ble_eq_true rfl) rfl rfl (fun _ _ => rfl) ?_
  refine pw_iconst (v := nI 0) e_Mod_years_45 (by decide) ?_
  refine pw_istore (ls2 := [_, _, _, _, _, _]) e_Mod_years_46 (by decide) rfl ?_
  refine w_Mod_years_48 hst hnd x y z 31 (u2 (va_up Z 0 (f_Mod_tries Z (Z 0))) 100 75 x) n 0 (wfM.u100 (i := 75) (wfM.up0 hw) (by decide)) hd1 (by omega) (by omega) (by omega) ?_
  refine pw_iload_n e_Mod_years_64 rfl ?_
  refine pw_if_le (tgt := 102) e_Mod_years_65 (by decide) (fun (H1 : z ≤ 0) => ?_) (fun (H1 : ¬ z ≤ 0) => ?_)
  · refine pw_iconst (v := nI 0) e_Mod_years_102 (by decide) ?_
    refine pw_istore (ls2 := [_, _, _, _, _, _]) e_Mod_years_103 (by decide) rfl ?_
    refine pw_iconst (v := nI 0) e_Mod_years_105 (by decide) ?_
    refine pw_istore (ls2 := [_, _, _, _, _, _]) e_Mod_years_106 (by decide) rfl ?_
    refine w_Mod_years_108 hst hnd x y z 11 (f_Mod_years_48 x y z 31 (u2 (va_up Z 0 (f_Mod_tries Z (Z 0))) 100 75 x) n 0) n 0 0 (z_years_48 _ _ _ (wfM.u100 (i := 75) (wfM.up0 hw) (by decide))) (by omega) (by omega) ?_
    rw [f_Mod_years_36, if_pos H1] at hk
    exact hk
  · refine pw_iload_n e_Mod_years_68 rfl ?_
    refine pw_iconst (v := nI 1) e_Mod_years_69 (by decide) ?_
    refine pw_icmp_ne (tgt := 84) e_Mod_years_70 (by decide) (fun (H2 : ¬ z = 1) => ?_) (fun (H2 : z = 1) => ?_)
    · refine pw_aload_n e_Mod_years_84 rfl ?_
      refine pw_getf e_Mod_years_85 fl_Mod_9 (gO_get hnd (i := 0) rfl) rfl ?_
      refine pw_sipush (v := nI 419) e_Mod_years_88 (by decide) ?_
      refine pw_ialdN e_Mod_years_91 (gO_get hnd (i := 1) rfl) (by omega) (by decide) ?_
      refine pw_aload_n e_Mod_years_92 rfl ?_
      refine pw_getf e_Mod_years_93 fl_Mod_9 (gO_get hnd (i := 0) rfl) rfl ?_
      refine pw_sipush (v := nI 209) e_Mod_years_96 (by decide) ?_
      refine pw_ialdN e_Mod_years_99 (gO_get hnd (i := 1) rfl) (by omega) (by decide) ?_
      refine pw_isub e_Mod_years_100 ?_
      refine pw_iret e_Mod_years_101 rfl rfl ?_
      rw [f_Mod_years_36, if_neg H1, if_neg H2] at hk
      exact hk
    · refine pw_aload_n e_Mod_years_73 rfl ?_
      refine pw_getf e_Mod_years_74 fl_Mod_9 (gO_get hnd (i := 0) rfl) rfl ?_
      refine pw_sipush (v := nI 415) e_Mod_years_77 (by decide) ?_
      refine pw_ialdN e_Mod_years_80 (gO_get hnd (i := 1) rfl) (by omega) (by decide) ?_
      refine pw_goto (tgt := 101) e_Mod_years_81 (by decide) ?_
      refine pw_iret e_Mod_years_101 rfl rfl ?_
      rw [f_Mod_years_36, if_neg H1, if_pos H2] at hk
      exact hk
def f_Mod_years (x : Int32) (y : Int32) (z : Int32) (Z : Nat → Nat → Int32) : Int32 × (Nat → Nat → Int32) :=
  if ((f_Mod_right (f_Mod_within z (nI 0) (nI 2)) (nI 1) (u2 Z 100 18 0)).1) = 0 then (0, (f_Mod_right (f_Mod_within z (nI 0) (nI 2)) (nI 1) (u2 Z 100 18 0)).2) else if ((f_Mod_right (f_Mod_within y (nI 0) (nI 30)) (nI 2) ((f_Mod_right (f_Mod_within z (nI 0) (nI 2)) (nI 1) (u2 Z 100 18 0)).2)).1) = 0 then (0, (f_Mod_right (f_Mod_within y (nI 0) (nI 30)) (nI 2) ((f_Mod_right (f_Mod_within z (nI 0) (nI 2)) (nI 1) (u2 Z 100 18 0)).2)).2) else f_Mod_years_36 x y z ((f_Mod_right (f_Mod_within y (nI 0) (nI 30)) (nI 2) ((f_Mod_right (f_Mod_within z (nI 0) (nI 2)) (nI 1) (u2 Z 100 18 0)).2)).2) y.toNatClampNeg
set_option maxRecDepth 4000 in
theorem w_Mod_years_0 {g : GG} {Q : QT} {h : Hp} {kc ks : Nat} (hst : (gl g).stackTraces = false) {A : Nat → Nat} (hnd : (gK (moL g A)).Nodup) (x : Int32) (y : Int32) (z : Int32)  (Z : Nat → Nat → Int32) (hw : wfM Z) (hd1 : 0 < pN Z 100 19) (hk : Q (.inl (some (.int (f_Mod_years x y z Z).1))) (ov h (gO (moL g A) ((f_Mod_years x y z Z).2)))) : PW g M_Mod_years 8 kc ks Q 0 [.ref (A 100), .int (x), .int (y), .int (z), .retAddr 0, .retAddr 0] [] (ov h (gO (moL g A) Z)) := by
  have hz0 := hw.blk.2
  have hz1 := hw.lnk.2
  have hz2 := hw.dvs.2
  refine pw_aload_n e_Mod_years_0 rfl ?_
  refine pw_iconst (v := nI 0) e_Mod_years_1 (by decide) ?_
  refine pw_putGi (i := 0) (ps := 18) (x := 0) e_Mod_years_2 fp_Mod_159 hnd (mo_x _ _) rfl (Nat.le_of_ble_eq_true rfl) rfl rfl (fun _ _ => rfl) ?_
  refine pw_aload_n e_Mod_years_5 rfl ?_
  refine pw_iload_n e_Mod_years_6 rfl ?_
  refine pw_iconst (v := nI 0) e_Mod_years_7 (by decide) ?_
  refine pw_iconst (v := nI 2) e_Mod_years_8 (by decide) ?_
  refine pw_detS (As := [.int (z), .int (nI (0)), .int (nI (2))]) e_Mod_years_9 li_Mod_312 (q_Mod_within hst z (nI 0) (nI 2)) rfl (by decide) (Nat.le_of_ble_eq_true rfl) rfl ?_
  refine pw_iconst (v := nI 1) e_Mod_years_12 (by decide) ?_
  refine pw_detV (As := [.int (f_Mod_within z (nI 0) (nI 2)), .int (nI (1))]) e_Mod_years_13 li_Mod_372 rfl (gO_get hnd (i := 0) rfl) (q_Mod_right hst hnd (f_Mod_within z (nI 0) (nI 2)) (nI 1) (u2 Z 100 18 0) (gO_in hnd (fun _ z => z))) rfl (by decide) (Nat.le_of_ble_eq_true rfl) rfl ?_
  refine pw_sameG hnd ?_
  refine pw_if_eq (tgt := 34) e_Mod_years_16 (by decide) (fun (H1 : ((f_Mod_right (f_Mod_within z (nI 0) (nI 2)) (nI 1) (u2 Z 100 18 0)).1) = 0) => ?_) (fun (H1 : ¬ ((f_Mod_right (f_Mod_within z (nI 0) (nI 2)) (nI 1) (u2 Z 100 18 0)).1) = 0) => ?_)
  · refine pw_iconst (v := nI 0) e_Mod_years_34 (by decide) ?_
    refine pw_iret e_Mod_years_35 rfl rfl ?_
    rw [f_Mod_years, if_pos H1] at hk
    exact hk
  · refine pw_aload_n e_Mod_years_19 rfl ?_
    refine pw_iload_n e_Mod_years_20 rfl ?_
    refine pw_iconst (v := nI 0) e_Mod_years_21 (by decide) ?_
    refine pw_bipush (v := nI 30) e_Mod_years_22 (by decide) ?_
    refine pw_detS (As := [.int (y), .int (nI (0)), .int (nI (30))]) e_Mod_years_24 li_Mod_312 (q_Mod_within hst y (nI 0) (nI 30)) rfl (by decide) (Nat.le_of_ble_eq_true rfl) rfl ?_
    refine pw_iconst (v := nI 2) e_Mod_years_27 (by decide) ?_
    refine pw_detV (As := [.int (f_Mod_within y (nI 0) (nI 30)), .int (nI (2))]) e_Mod_years_28 li_Mod_372 rfl (gO_get hnd (i := 0) rfl) (q_Mod_right hst hnd (f_Mod_within y (nI 0) (nI 30)) (nI 2) ((f_Mod_right (f_Mod_within z (nI 0) (nI 2)) (nI 1) (u2 Z 100 18 0)).2) (gO_in hnd (fun _ z => z))) rfl (by decide) (Nat.le_of_ble_eq_true rfl) rfl ?_
    refine pw_sameG hnd ?_
    refine pw_if_ne (tgt := 36) e_Mod_years_31 (by decide) (fun (H2 : ¬ ((f_Mod_right (f_Mod_within y (nI 0) (nI 30)) (nI 2) ((f_Mod_right (f_Mod_within z (nI 0) (nI 2)) (nI 1) (u2 Z 100 18 0)).2)).1) = 0) => ?_) (fun (H2 : ((f_Mod_right (f_Mod_within y (nI 0) (nI 30)) (nI 2) ((f_Mod_right (f_Mod_within z (nI 0) (nI 2)) (nI 1) (u2 Z 100 18 0)).2)).1) = 0) => ?_)
    · refine pw_eqls (ls' := [.ref (A 100), .int (x), .int (nI (y.toNatClampNeg)), .int (z), .retAddr 0, .retAddr 0]) (by rw [← (show y = nI (y.toNatClampNeg) from (win_M (n := 30) (by decide) (rt_of (by decide) H2).1).1)]) ?_
      refine w_Mod_years_36 hst hnd x y z ((f_Mod_right (f_Mod_within y (nI 0) (nI 30)) (nI 2) ((f_Mod_right (f_Mod_within z (nI 0) (nI 2)) (nI 1) (u2 Z 100 18 0)).2)).2) y.toNatClampNeg (z_right (z_right (wfM.u100 (i := 18) hw (by decide)))) (d1_rt (d1_rt hd1)) (win_M (n := 30) (by decide) (rt_of (by decide) H2).1).2 ?_
      rw [f_Mod_years, if_neg H1, if_neg H2] at hk
      exact hk
    · refine pw_iconst (v := nI 0) e_Mod_years_34 (by decide) ?_
      refine pw_iret e_Mod_years_35 rfl rfl ?_
      rw [f_Mod_years, if_neg H1, if_pos H2] at hk
      exact hk
theorem q_Mod_years {g : GG} {h : Hp} (hst : (gl g).stackTraces = false) {A : Nat → Nat} (hnd : (gK (moL g A)).Nodup) (x : Int32) (y : Int32) (z : Int32)  (Z : Nat → Nat → Int32) (hm : ∀ q ∈ gO (moL g A) Z, h q.1 = some q.2) (hw : wfM Z) (hd1 : 0 < pN Z 100 19) : PM g M_Mod_years 8 0 0 [.ref (A 100), .int (x), .int (y), .int (z)] h (RetV (some (.int (f_Mod_years x y z Z).1)) (ov h (gO (moL g A) ((f_Mod_years x y z Z).2)))) := by
  refine PM.of hst (by decide) rfl (fun v hv => ?_) (Nat.le_of_ble_eq_true rfl) ?_
  · simp only [List.mem_cons, List.not_mem_nil, or_false] at hv; rcases hv with rfl | rfl | rfl | rfl <;> rfl
  · have hq := w_Mod_years_0 (g := g) (Q := RetV (some (.int (f_Mod_years x y z Z).1)) (ov h (gO (moL g A) ((f_Mod_years x y z Z).2)))) (h := h) (kc := 0) (ks := 0) hst hnd x y z Z hw hd1 ?_
    · rw [ov_self hm] at hq; exact hq
    · exact ⟨rfl, rfl⟩

def f_Mod_image_114  : Nat → (Nat → Nat → Int32) → (Nat) → (Nat → Nat → Int32)
  | 0, Z, _ => Z
  | t + 1, Z, k => if 3 ≤ k then Z else f_Mod_image_114  t (u2 Z 17 (3 + k) ((Z 17) k)) (k + 1)
set_option maxRecDepth 4000 in
theorem w_Mod_image_114 {g : GG} {Q : QT} {h : Hp} {kc ks : Nat} (hst : (gl g).stackTraces = false) {A : Nat → Nat} (hnd : (gK (moL g A)).Nodup)  (t : Nat) : ∀ (Z : Nat → Nat → Int32) (k : Nat) (hw : wfM Z) (hk9 : k ≤ 3) (hlt : 3 - k < t) (hk : PW g M_Mod_image 1 kc ks Q 139 [.ref (A 100), .retAddr 0] [] (ov h (gO (moL g A) (f_Mod_image_114  t Z k)))), PW g M_Mod_image 1 kc ks Q 114 [.ref (A 100), .int (nI (k))] [] (ov h (gO (moL g A) Z)) := by
  induction t with
  | zero => intro Z k hw hk9 hlt _; exact absurd hlt (Nat.not_lt_zero _)
  | succ t ih =>
    intro Z k hw hk9 hlt hk
    have hz0 := hw.blk.2
    have hz1 := hw.lnk.2
    have hz2 := hw.dvs.2
    refine pw_iload_n e_Mod_image_114 rfl ?_
    refine pw_iconst (v := nI 3) e_Mod_image_115 (by decide) ?_
    refine pw_icmp_geN (tgt := 139) e_Mod_image_116 (by decide) (by omega) (by omega) (fun (H1 : 3 ≤ k) => ?_) (fun (H1 : k < 3) => ?_)
    · refine pw_fgt (ls' := [.ref (A 100), .retAddr 0]) ⟨Or.inr rfl, Or.inl rfl, trivial⟩ ?_
      rw [f_Mod_image_114, if_pos H1] at hk
      exact hk
    · refine pw_aload_n e_Mod_image_119 rfl ?_
      refine pw_getf e_Mod_image_120 fl_Mod_61 (gO_get hnd (i := 0) rfl) rfl ?_
      refine pw_iconst (v := nI 3) e_Mod_image_123 (by decide) ?_
      refine pw_iload_n e_Mod_image_124 rfl ?_
      refine pw_iaddN e_Mod_image_125 ?_
      refine pw_aload_n e_Mod_image_126 rfl ?_
      refine pw_getf e_Mod_image_127 fl_Mod_61 (gO_get hnd (i := 0) rfl) rfl ?_
      refine pw_iload_n e_Mod_image_130 rfl ?_
      refine pw_ialdN e_Mod_image_131 (gO_get hnd (i := 18) rfl) (by omega) (by decide) ?_
      refine pw_iastG (i := 18) e_Mod_image_132 hnd (mo_x _ _) rfl (by omega) (by decide) ?_
      refine pw_iincN (ls2 := [_, _]) e_Mod_image_133 rfl (by decide) rfl ?_
      refine pw_goto (tgt := 114) e_Mod_image_136 (by decide) ?_
      refine ih (u2 Z 17 (3 + k) ((Z 17) k)) (k + 1) (wfM.uk (k := 17) hw (by decide)) (by omega) (by omega) ?_
      rw [f_Mod_image_114, if_neg (Nat.not_le.mpr H1)] at hk
      exact hk
theorem z_image_114 : ∀ (t : Nat) {Z : Nat → Nat → Int32} (k : Nat) (h : wfM Z), wfM (f_Mod_image_114 t Z k) := by
  intro t
  induction t with
  | zero => intro Z k h; exact h
  | succ t ih =>
    intro Z k h
    rw [f_Mod_image_114]
    repeat' split
    all_goals repeat (first | exact h | apply ih | apply wfM.up0 | refine wfM.u100 ?_ (by decide) | refine wfM.uk ?_ (by decide))
def f_Mod_image_55  : Nat → (Nat → Nat → Int32) → (Nat) → (Nat → Nat → Int32)
  | 0, Z, _ => Z
  | t + 1, Z, k => if 6 ≤ k then Z else f_Mod_image_55  t (u2 (u2 (u2 Z 14 (6 + k) ((Z 14) k)) 15 (6 + k) (((u2 Z 14 (6 + k) ((Z 14) k)) 15) k)) 16 (6 + k) (((u2 (u2 Z 14 (6 + k) ((Z 14) k)) 15 (6 + k) (((u2 Z 14 (6 + k) ((Z 14) k)) 15) k)) 16) k)) (k + 1)
set_option maxRecDepth 4000 in
theorem w_Mod_image_55 {g : GG} {Q : QT} {h : Hp} {kc ks : Nat} (hst : (gl g).stackTraces = false) {A : Nat → Nat} (hnd : (gK (moL g A)).Nodup)  (t : Nat) : ∀ (Z : Nat → Nat → Int32) (k : Nat) (hw : wfM Z) (hk9 : k ≤ 6) (hlt : 6 - k < t) (hk : PW g M_Mod_image 1 kc ks Q 112 [.ref (A 100), .retAddr 0] [] (ov h (gO (moL g A) (f_Mod_image_55  t Z k)))), PW g M_Mod_image 1 kc ks Q 55 [.ref (A 100), .int (nI (k))] [] (ov h (gO (moL g A) Z)) := by
  induction t with
  | zero => intro Z k hw hk9 hlt _; exact absurd hlt (Nat.not_lt_zero _)
  | succ t ih =>
    intro Z k hw hk9 hlt hk
    have hz0 := hw.blk.2
    have hz1 := hw.lnk.2
    have hz2 := hw.dvs.2
    refine pw_iload_n e_Mod_image_55 rfl ?_
    refine pw_bipush (v := nI 6) e_Mod_image_56 (by decide) ?_
    refine pw_icmp_geN (tgt := 112) e_Mod_image_58 (by decide) (by omega) (by omega) (fun (H1 : 6 ≤ k) => ?_) (fun (H1 : k < 6) => ?_)
    · refine pw_fgt (ls' := [.ref (A 100), .retAddr 0]) ⟨Or.inr rfl, Or.inl rfl, trivial⟩ ?_
      rw [f_Mod_image_55, if_pos H1] at hk
      exact hk
    · refine pw_aload_n e_Mod_image_61 rfl ?_
      refine pw_getf e_Mod_image_62 fl_Mod_52 (gO_get hnd (i := 0) rfl) rfl ?_
      refine pw_bipush (v := nI 6) e_Mod_image_65 (by decide) ?_
      refine pw_iload_n e_Mod_image_67 rfl ?_
      refine pw_iaddN e_Mod_image_68 ?_
      refine pw_aload_n e_Mod_image_69 rfl ?_
      refine pw_getf e_Mod_image_70 fl_Mod_52 (gO_get hnd (i := 0) rfl) rfl ?_
      refine pw_iload_n e_Mod_image_73 rfl ?_
      refine pw_ialdN e_Mod_image_74 (gO_get hnd (i := 15) rfl) (by omega) (by decide) ?_
      refine pw_iastG (i := 15) e_Mod_image_75 hnd (mo_x _ _) rfl (by omega) (by decide) ?_
      refine pw_aload_n e_Mod_image_76 rfl ?_
      refine pw_getf e_Mod_image_77 fl_Mod_55 (gO_get hnd (i := 0) rfl) rfl ?_
      refine pw_bipush (v := nI 6) e_Mod_image_80 (by decide) ?_
      refine pw_iload_n e_Mod_image_82 rfl ?_
      refine pw_iaddN e_Mod_image_83 ?_
      refine pw_aload_n e_Mod_image_84 rfl ?_
      refine pw_getf e_Mod_image_85 fl_Mod_55 (gO_get hnd (i := 0) rfl) rfl ?_
      refine pw_iload_n e_Mod_image_88 rfl ?_
      refine pw_ialdN e_Mod_image_89 (gO_get hnd (i := 16) rfl) (by omega) (by decide) ?_
      refine pw_iastG (i := 16) e_Mod_image_90 hnd (mo_x _ _) rfl (by omega) (by decide) ?_
      refine pw_aload_n e_Mod_image_91 rfl ?_
      refine pw_getf e_Mod_image_92 fl_Mod_58 (gO_get hnd (i := 0) rfl) rfl ?_
      refine pw_bipush (v := nI 6) e_Mod_image_95 (by decide) ?_
      refine pw_iload_n e_Mod_image_97 rfl ?_
      refine pw_iaddN e_Mod_image_98 ?_
      refine pw_aload_n e_Mod_image_99 rfl ?_
      refine pw_getf e_Mod_image_100 fl_Mod_58 (gO_get hnd (i := 0) rfl) rfl ?_
      refine pw_iload_n e_Mod_image_103 rfl ?_
      refine pw_ialdN e_Mod_image_104 (gO_get hnd (i := 17) rfl) (by omega) (by decide) ?_
      refine pw_iastG (i := 17) e_Mod_image_105 hnd (mo_x _ _) rfl (by omega) (by decide) ?_
      refine pw_iincN (ls2 := [_, _]) e_Mod_image_106 rfl (by decide) rfl ?_
      refine pw_goto (tgt := 55) e_Mod_image_109 (by decide) ?_
      refine ih (u2 (u2 (u2 Z 14 (6 + k) ((Z 14) k)) 15 (6 + k) (((u2 Z 14 (6 + k) ((Z 14) k)) 15) k)) 16 (6 + k) (((u2 (u2 Z 14 (6 + k) ((Z 14) k)) 15 (6 + k) (((u2 Z 14 (6 + k) ((Z 14) k)) 15) k)) 16) k)) (k + 1) (wfM.uk (k := 16) (wfM.uk (k := 15) (wfM.uk (k := 14) hw (by decide)) (by decide)) (by decide)) (by omega) (by omega) ?_
      rw [f_Mod_image_55, if_neg (Nat.not_le.mpr H1)] at hk
      exact hk
theorem z_image_55 : ∀ (t : Nat) {Z : Nat → Nat → Int32} (k : Nat) (h : wfM Z), wfM (f_Mod_image_55 t Z k) := by
  intro t
  induction t with
  | zero => intro Z k h; exact h
  | succ t ih =>
    intro Z k h
    rw [f_Mod_image_55]
    repeat' split
    all_goals repeat (first | exact h | apply ih | apply wfM.up0 | refine wfM.u100 ?_ (by decide) | refine wfM.uk ?_ (by decide))
def f_Mod_image  (Z : Nat → Nat → Int32) : (Nat → Nat → Int32) :=
  u2 (f_Mod_image_114  4 (f_Mod_image_55  7 (u2 (u2 (u2 (va_up (va_up (u2 Z 100 18 0) 0 (f_Mod_copies (u2 Z 100 18 0) 0 9030 210 ((u2 Z 100 18 0) 0))) 0 (f_Mod_copies (va_up (u2 Z 100 18 0) 0 (f_Mod_copies (u2 Z 100 18 0) 0 9030 210 ((u2 Z 100 18 0) 0))) 630 9240 8400 ((va_up (u2 Z 100 18 0) 0 (f_Mod_copies (u2 Z 100 18 0) 0 9030 210 ((u2 Z 100 18 0) 0))) 0))) 100 27 ((va_up (va_up (u2 Z 100 18 0) 0 (f_Mod_copies (u2 Z 100 18 0) 0 9030 210 ((u2 Z 100 18 0) 0))) 0 (f_Mod_copies (va_up (u2 Z 100 18 0) 0 (f_Mod_copies (u2 Z 100 18 0) 0 9030 210 ((u2 Z 100 18 0) 0))) 630 9240 8400 ((va_up (u2 Z 100 18 0) 0 (f_Mod_copies (u2 Z 100 18 0) 0 9030 210 ((u2 Z 100 18 0) 0))) 0))) 100 24)) 100 28 ((u2 (va_up (va_up (u2 Z 100 18 0) 0 (f_Mod_copies (u2 Z 100 18 0) 0 9030 210 ((u2 Z 100 18 0) 0))) 0 (f_Mod_copies (va_up (u2 Z 100 18 0) 0 (f_Mod_copies (u2 Z 100 18 0) 0 9030 210 ((u2 Z 100 18 0) 0))) 630 9240 8400 ((va_up (u2 Z 100 18 0) 0 (f_Mod_copies (u2 Z 100 18 0) 0 9030 210 ((u2 Z 100 18 0) 0))) 0))) 100 27 ((va_up (va_up (u2 Z 100 18 0) 0 (f_Mod_copies (u2 Z 100 18 0) 0 9030 210 ((u2 Z 100 18 0) 0))) 0 (f_Mod_copies (va_up (u2 Z 100 18 0) 0 (f_Mod_copies (u2 Z 100 18 0) 0 9030 210 ((u2 Z 100 18 0) 0))) 630 9240 8400 ((va_up (u2 Z 100 18 0) 0 (f_Mod_copies (u2 Z 100 18 0) 0 9030 210 ((u2 Z 100 18 0) 0))) 0))) 100 24)) 100 25)) 100 29 ((u2 (u2 (va_up (va_up (u2 Z 100 18 0) 0 (f_Mod_copies (u2 Z 100 18 0) 0 9030 210 ((u2 Z 100 18 0) 0))) 0 (f_Mod_copies (va_up (u2 Z 100 18 0) 0 (f_Mod_copies (u2 Z 100 18 0) 0 9030 210 ((u2 Z 100 18 0) 0))) 630 9240 8400 ((va_up (u2 Z 100 18 0) 0 (f_Mod_copies (u2 Z 100 18 0) 0 9030 210 ((u2 Z 100 18 0) 0))) 0))) 100 27 ((va_up (va_up (u2 Z 100 18 0) 0 (f_Mod_copies (u2 Z 100 18 0) 0 9030 210 ((u2 Z 100 18 0) 0))) 0 (f_Mod_copies (va_up (u2 Z 100 18 0) 0 (f_Mod_copies (u2 Z 100 18 0) 0 9030 210 ((u2 Z 100 18 0) 0))) 630 9240 8400 ((va_up (u2 Z 100 18 0) 0 (f_Mod_copies (u2 Z 100 18 0) 0 9030 210 ((u2 Z 100 18 0) 0))) 0))) 100 24)) 100 28 ((u2 (va_up (va_up (u2 Z 100 18 0) 0 (f_Mod_copies (u2 Z 100 18 0) 0 9030 210 ((u2 Z 100 18 0) 0))) 0 (f_Mod_copies (va_up (u2 Z 100 18 0) 0 (f_Mod_copies (u2 Z 100 18 0) 0 9030 210 ((u2 Z 100 18 0) 0))) 630 9240 8400 ((va_up (u2 Z 100 18 0) 0 (f_Mod_copies (u2 Z 100 18 0) 0 9030 210 ((u2 Z 100 18 0) 0))) 0))) 100 27 ((va_up (va_up (u2 Z 100 18 0) 0 (f_Mod_copies (u2 Z 100 18 0) 0 9030 210 ((u2 Z 100 18 0) 0))) 0 (f_Mod_copies (va_up (u2 Z 100 18 0) 0 (f_Mod_copies (u2 Z 100 18 0) 0 9030 210 ((u2 Z 100 18 0) 0))) 630 9240 8400 ((va_up (u2 Z 100 18 0) 0 (f_Mod_copies (u2 Z 100 18 0) 0 9030 210 ((u2 Z 100 18 0) 0))) 0))) 100 24)) 100 25)) 100 26)) 0) 0) 100 30 1
set_option maxRecDepth 4000 in
theorem w_Mod_image_0 {g : GG} {Q : QT} {h : Hp} {kc ks : Nat} (hst : (gl g).stackTraces = false) {A : Nat → Nat} (hnd : (gK (moL g A)).Nodup)  (Z : Nat → Nat → Int32) (hw : wfM Z) (hk : Q (.inl none) (ov h (gO (moL g A) (f_Mod_image  Z)))) : PW g M_Mod_image 1 kc ks Q 0 [.ref (A 100), .retAddr 0] [] (ov h (gO (moL g A) Z)) := by
  have hz0 := hw.blk.2
  have hz1 := hw.lnk.2
  have hz2 := hw.dvs.2
  refine pw_aload_n e_Mod_image_0 rfl ?_
  refine pw_iconst (v := nI 0) e_Mod_image_1 (by decide) ?_
  refine pw_putGi (i := 0) (ps := 18) (x := 0) e_Mod_image_2 fp_Mod_159 hnd (mo_x _ _) rfl (Nat.le_of_ble_eq_true rfl) rfl rfl (fun _ _ => rfl) ?_
  refine pw_aload_n e_Mod_image_5 rfl ?_
  refine pw_iconst (v := nI 0) e_Mod_image_6 (by decide) ?_
  refine pw_sipush (v := nI 9030) e_Mod_image_7 (by decide) ?_
  refine pw_sipush (v := nI 210) e_Mod_image_10 (by decide) ?_
  refine pw_detV (As := [.int (nI (0)), .int (nI (9030)), .int (nI (210))]) e_Mod_image_13 li_Mod_406 rfl (gO_get hnd (i := 0) rfl) (q_Mod_copies hst (mo_at hnd) (wfM.u100 (i := 18) hw (by decide)) 0 9030 210 (by omega) (by omega) ((u2 Z 100 18 0) 0) (gO_get hnd (i := 1) rfl)) rfl (by decide) (Nat.le_of_ble_eq_true rfl) rfl ?_
  refine pw_upG (i := 1) hnd (mo_x _ _) rfl rfl ?_
  refine pw_aload_n e_Mod_image_16 rfl ?_
  refine pw_sipush (v := nI 630) e_Mod_image_17 (by decide) ?_
  refine pw_sipush (v := nI 9240) e_Mod_image_20 (by decide) ?_
  refine pw_sipush (v := nI 8400) e_Mod_image_23 (by decide) ?_
  refine pw_detV (As := [.int (nI (630)), .int (nI (9240)), .int (nI (8400))]) e_Mod_image_26 li_Mod_406 rfl (gO_get hnd (i := 0) rfl) (q_Mod_copies hst (mo_at hnd) (wfM.up0 (wfM.u100 (i := 18) hw (by decide))) 630 9240 8400 (by omega) (by omega) ((va_up (u2 Z 100 18 0) 0 (f_Mod_copies (u2 Z 100 18 0) 0 9030 210 ((u2 Z 100 18 0) 0))) 0) (gO_get hnd (i := 1) rfl)) rfl (by decide) (Nat.le_of_ble_eq_true rfl) rfl ?_
  refine pw_upG (i := 1) hnd (mo_x _ _) rfl rfl ?_
  refine pw_aload_n e_Mod_image_29 rfl ?_
  refine pw_aload_n e_Mod_image_30 rfl ?_
  refine pw_getf e_Mod_image_31 fl_Mod_394 (gO_get hnd (i := 0) rfl) rfl ?_
  refine pw_putGi (i := 0) (ps := 27) (x := (va_up (va_up (u2 Z 100 18 0) 0 (f_Mod_copies (u2 Z 100 18 0) 0 9030 210 ((u2 Z 100 18 0) 0))) 0 (f_Mod_copies (va_up (u2 Z 100 18 0) 0 (f_Mod_copies (u2 Z 100 18 0) 0 9030 210 ((u2 Z 100 18 0) 0))) 630 9240 8400 ((va_up (u2 Z 100 18 0) 0 (f_Mod_copies (u2 Z 100 18 0) 0 9030 210 ((u2 Z 100 18 0) 0))) 0))) 100 24) e_Mod_image_34 fp_Mod_463 hnd (mo_x _ _) rfl (Nat.le_of_ble_eq_true rfl) rfl rfl (fun _ _ => rfl) ?_
  refine pw_aload_n e_Mod_image_37 rfl ?_
  refine pw_aload_n e_Mod_image_38 rfl ?_
  refine pw_getf e_Mod_image_39 fl_Mod_391 (gO_get hnd (i := 0) rfl) rfl ?_
  refine pw_putGi (i := 0) (ps := 28) (x := (u2 (va_up (va_up (u2 Z 100 18 0) 0 (f_Mod_copies (u2 Z 100 18 0) 0 9030 210 ((u2 Z 100 18 0) 0))) 0 (f_Mod_copies (va_up (u2 Z 100 18 0) 0 (f_Mod_copies (u2 Z 100 18 0) 0 9030 210 ((u2 Z 100 18 0) 0))) 630 9240 8400 ((va_up (u2 Z 100 18 0) 0 (f_Mod_copies (u2 Z 100 18 0) 0 9030 210 ((u2 Z 100 18 0) 0))) 0))) 100 27 ((va_up (va_up (u2 Z 100 18 0) 0 (f_Mod_copies (u2 Z 100 18 0) 0 9030 210 ((u2 Z 100 18 0) 0))) 0 (f_Mod_copies (va_up (u2 Z 100 18 0) 0 (f_Mod_copies (u2 Z 100 18 0) 0 9030 210 ((u2 Z 100 18 0) 0))) 630 9240 8400 ((va_up (u2 Z 100 18 0) 0 (f_Mod_copies (u2 Z 100 18 0) 0 9030 210 ((u2 Z 100 18 0) 0))) 0))) 100 24)) 100 25) e_Mod_image_42 fp_Mod_466 hnd (mo_x _ _) rfl (Nat.le_of_ble_eq_true rfl) rfl rfl (fun _ _ => rfl) ?_
  refine pw_aload_n e_Mod_image_45 rfl ?_
  refine pw_aload_n e_Mod_image_46 rfl ?_
  refine pw_getf e_Mod_image_47 fl_Mod_388 (gO_get hnd (i := 0) rfl) rfl ?_
  refine pw_putGi (i := 0) (ps := 29) (x := (u2 (u2 (va_up (va_up (u2 Z 100 18 0) 0 (f_Mod_copies (u2 Z 100 18 0) 0 9030 210 ((u2 Z 100 18 0) 0))) 0 (f_Mod_copies (va_up (u2 Z 100 18 0) 0 (f_Mod_copies (u2 Z 100 18 0) 0 9030 210 ((u2 Z 100 18 0) 0))) 630 9240 8400 ((va_up (u2 Z 100 18 0) 0 (f_Mod_copies (u2 Z 100 18 0) 0 9030 210 ((u2 Z 100 18 0) 0))) 0))) 100 27 ((va_up (va_up (u2 Z 100 18 0) 0 (f_Mod_copies (u2 Z 100 18 0) 0 9030 210 ((u2 Z 100 18 0) 0))) 0 (f_Mod_copies (va_up (u2 Z 100 18 0) 0 (f_Mod_copies (u2 Z 100 18 0) 0 9030 210 ((u2 Z 100 18 0) 0))) 630 9240 8400 ((va_up (u2 Z 100 18 0) 0 (f_Mod_copies (u2 Z 100 18 0) 0 9030 210 ((u2 Z 100 18 0) 0))) 0))) 100 24)) 100 28 ((u2 (va_up (va_up (u2 Z 100 18 0) 0 (f_Mod_copies (u2 Z 100 18 0) 0 9030 210 ((u2 Z 100 18 0) 0))) 0 (f_Mod_copies (va_up (u2 Z 100 18 0) 0 (f_Mod_copies (u2 Z 100 18 0) 0 9030 210 ((u2 Z 100 18 0) 0))) 630 9240 8400 ((va_up (u2 Z 100 18 0) 0 (f_Mod_copies (u2 Z 100 18 0) 0 9030 210 ((u2 Z 100 18 0) 0))) 0))) 100 27 ((va_up (va_up (u2 Z 100 18 0) 0 (f_Mod_copies (u2 Z 100 18 0) 0 9030 210 ((u2 Z 100 18 0) 0))) 0 (f_Mod_copies (va_up (u2 Z 100 18 0) 0 (f_Mod_copies (u2 Z 100 18 0) 0 9030 210 ((u2 Z 100 18 0) 0))) 630 9240 8400 ((va_up (u2 Z 100 18 0) 0 (f_Mod_copies (u2 Z 100 18 0) 0 9030 210 ((u2 Z 100 18 0) 0))) 0))) 100 24)) 100 25)) 100 26) e_Mod_image_50 fp_Mod_469 hnd (mo_x _ _) rfl (Nat.le_of_ble_eq_true rfl) rfl rfl (fun _ _ => rfl) ?_
  refine pw_iconst (v := nI 0) e_Mod_image_53 (by decide) ?_
  refine pw_istore_n (ls2 := [_, _]) e_Mod_image_54 (by decide) rfl ?_
  refine w_Mod_image_55 hst hnd 7 (u2 (u2 (u2 (va_up (va_up (u2 Z 100 18 0) 0 (f_Mod_copies (u2 Z 100 18 0) 0 9030 210 ((u2 Z 100 18 0) 0))) 0 (f_Mod_copies (va_up (u2 Z 100 18 0) 0 (f_Mod_copies (u2 Z 100 18 0) 0 9030 210 ((u2 Z 100 18 0) 0))) 630 9240 8400 ((va_up (u2 Z 100 18 0) 0 (f_Mod_copies (u2 Z 100 18 0) 0 9030 210 ((u2 Z 100 18 0) 0))) 0))) 100 27 ((va_up (va_up (u2 Z 100 18 0) 0 (f_Mod_copies (u2 Z 100 18 0) 0 9030 210 ((u2 Z 100 18 0) 0))) 0 (f_Mod_copies (va_up (u2 Z 100 18 0) 0 (f_Mod_copies (u2 Z 100 18 0) 0 9030 210 ((u2 Z 100 18 0) 0))) 630 9240 8400 ((va_up (u2 Z 100 18 0) 0 (f_Mod_copies (u2 Z 100 18 0) 0 9030 210 ((u2 Z 100 18 0) 0))) 0))) 100 24)) 100 28 ((u2 (va_up (va_up (u2 Z 100 18 0) 0 (f_Mod_copies (u2 Z 100 18 0) 0 9030 210 ((u2 Z 100 18 0) 0))) 0 (f_Mod_copies (va_up (u2 Z 100 18 0) 0 (f_Mod_copies (u2 Z 100 18 0) 0 9030 210 ((u2 Z 100 18 0) 0))) 630 9240 8400 ((va_up (u2 Z 100 18 0) 0 (f_Mod_copies (u2 Z 100 18 0) 0 9030 210 ((u2 Z 100 18 0) 0))) 0))) 100 27 ((va_up (va_up (u2 Z 100 18 0) 0 (f_Mod_copies (u2 Z 100 18 0) 0 9030 210 ((u2 Z 100 18 0) 0))) 0 (f_Mod_copies (va_up (u2 Z 100 18 0) 0 (f_Mod_copies (u2 Z 100 18 0) 0 9030 210 ((u2 Z 100 18 0) 0))) 630 9240 8400 ((va_up (u2 Z 100 18 0) 0 (f_Mod_copies (u2 Z 100 18 0) 0 9030 210 ((u2 Z 100 18 0) 0))) 0))) 100 24)) 100 25)) 100 29 ((u2 (u2 (va_up (va_up (u2 Z 100 18 0) 0 (f_Mod_copies (u2 Z 100 18 0) 0 9030 210 ((u2 Z 100 18 0) 0))) 0 (f_Mod_copies (va_up (u2 Z 100 18 0) 0 (f_Mod_copies (u2 Z 100 18 0) 0 9030 210 ((u2 Z 100 18 0) 0))) 630 9240 8400 ((va_up (u2 Z 100 18 0) 0 (f_Mod_copies (u2 Z 100 18 0) 0 9030 210 ((u2 Z 100 18 0) 0))) 0))) 100 27 ((va_up (va_up (u2 Z 100 18 0) 0 (f_Mod_copies (u2 Z 100 18 0) 0 9030 210 ((u2 Z 100 18 0) 0))) 0 (f_Mod_copies (va_up (u2 Z 100 18 0) 0 (f_Mod_copies (u2 Z 100 18 0) 0 9030 210 ((u2 Z 100 18 0) 0))) 630 9240 8400 ((va_up (u2 Z 100 18 0) 0 (f_Mod_copies (u2 Z 100 18 0) 0 9030 210 ((u2 Z 100 18 0) 0))) 0))) 100 24)) 100 28 ((u2 (va_up (va_up (u2 Z 100 18 0) 0 (f_Mod_copies (u2 Z 100 18 0) 0 9030 210 ((u2 Z 100 18 0) 0))) 0 (f_Mod_copies (va_up (u2 Z 100 18 0) 0 (f_Mod_copies (u2 Z 100 18 0) 0 9030 210 ((u2 Z 100 18 0) 0))) 630 9240 8400 ((va_up (u2 Z 100 18 0) 0 (f_Mod_copies (u2 Z 100 18 0) 0 9030 210 ((u2 Z 100 18 0) 0))) 0))) 100 27 ((va_up (va_up (u2 Z 100 18 0) 0 (f_Mod_copies (u2 Z 100 18 0) 0 9030 210 ((u2 Z 100 18 0) 0))) 0 (f_Mod_copies (va_up (u2 Z 100 18 0) 0 (f_Mod_copies (u2 Z 100 18 0) 0 9030 210 ((u2 Z 100 18 0) 0))) 630 9240 8400 ((va_up (u2 Z 100 18 0) 0 (f_Mod_copies (u2 Z 100 18 0) 0 9030 210 ((u2 Z 100 18 0) 0))) 0))) 100 24)) 100 25)) 100 26)) 0 (wfM.u100 (i := 29) (wfM.u100 (i := 28) (wfM.u100 (i := 27) (wfM.up0 (wfM.up0 (wfM.u100 (i := 18) hw (by decide)))) (by decide)) (by decide)) (by decide)) (by omega) (by omega) ?_
  refine pw_iconst (v := nI 0) e_Mod_image_112 (by decide) ?_
  refine pw_istore_n (ls2 := [_, _]) e_Mod_image_113 (by decide) rfl ?_
  refine w_Mod_image_114 hst hnd 4 (f_Mod_image_55  7 (u2 (u2 (u2 (va_up (va_up (u2 Z 100 18 0) 0 (f_Mod_copies (u2 Z 100 18 0) 0 9030 210 ((u2 Z 100 18 0) 0))) 0 (f_Mod_copies (va_up (u2 Z 100 18 0) 0 (f_Mod_copies (u2 Z 100 18 0) 0 9030 210 ((u2 Z 100 18 0) 0))) 630 9240 8400 ((va_up (u2 Z 100 18 0) 0 (f_Mod_copies (u2 Z 100 18 0) 0 9030 210 ((u2 Z 100 18 0) 0))) 0))) 100 27 ((va_up (va_up (u2 Z 100 18 0) 0 (f_Mod_copies (u2 Z 100 18 0) 0 9030 210 ((u2 Z 100 18 0) 0))) 0 (f_Mod_copies (va_up (u2 Z 100 18 0) 0 (f_Mod_copies (u2 Z 100 18 0) 0 9030 210 ((u2 Z 100 18 0) 0))) 630 9240 8400 ((va_up (u2 Z 100 18 0) 0 (f_Mod_copies (u2 Z 100 18 0) 0 9030 210 ((u2 Z 100 18 0) 0))) 0))) 100 24)) 100 28 ((u2 (va_up (va_up (u2 Z 100 18 0) 0 (f_Mod_copies (u2 Z 100 18 0) 0 9030 210 ((u2 Z 100 18 0) 0))) 0 (f_Mod_copies (va_up (u2 Z 100 18 0) 0 (f_Mod_copies (u2 Z 100 18 0) 0 9030 210 ((u2 Z 100 18 0) 0))) 630 9240 8400 ((va_up (u2 Z 100 18 0) 0 (f_Mod_copies (u2 Z 100 18 0) 0 9030 210 ((u2 Z 100 18 0) 0))) 0))) 100 27 ((va_up (va_up (u2 Z 100 18 0) 0 (f_Mod_copies (u2 Z 100 18 0) 0 9030 210 ((u2 Z 100 18 0) 0))) 0 (f_Mod_copies (va_up (u2 Z 100 18 0) 0 (f_Mod_copies (u2 Z 100 18 0) 0 9030 210 ((u2 Z 100 18 0) 0))) 630 9240 8400 ((va_up (u2 Z 100 18 0) 0 (f_Mod_copies (u2 Z 100 18 0) 0 9030 210 ((u2 Z 100 18 0) 0))) 0))) 100 24)) 100 25)) 100 29 ((u2 (u2 (va_up (va_up (u2 Z 100 18 0) 0 (f_Mod_copies (u2 Z 100 18 0) 0 9030 210 ((u2 Z 100 18 0) 0))) 0 (f_Mod_copies (va_up (u2 Z 100 18 0) 0 (f_Mod_copies (u2 Z 100 18 0) 0 9030 210 ((u2 Z 100 18 0) 0))) 630 9240 8400 ((va_up (u2 Z 100 18 0) 0 (f_Mod_copies (u2 Z 100 18 0) 0 9030 210 ((u2 Z 100 18 0) 0))) 0))) 100 27 ((va_up (va_up (u2 Z 100 18 0) 0 (f_Mod_copies (u2 Z 100 18 0) 0 9030 210 ((u2 Z 100 18 0) 0))) 0 (f_Mod_copies (va_up (u2 Z 100 18 0) 0 (f_Mod_copies (u2 Z 100 18 0) 0 9030 210 ((u2 Z 100 18 0) 0))) 630 9240 8400 ((va_up (u2 Z 100 18 0) 0 (f_Mod_copies (u2 Z 100 18 0) 0 9030 210 ((u2 Z 100 18 0) 0))) 0))) 100 24)) 100 28 ((u2 (va_up (va_up (u2 Z 100 18 0) 0 (f_Mod_copies (u2 Z 100 18 0) 0 9030 210 ((u2 Z 100 18 0) 0))) 0 (f_Mod_copies (va_up (u2 Z 100 18 0) 0 (f_Mod_copies (u2 Z 100 18 0) 0 9030 210 ((u2 Z 100 18 0) 0))) 630 9240 8400 ((va_up (u2 Z 100 18 0) 0 (f_Mod_copies (u2 Z 100 18 0) 0 9030 210 ((u2 Z 100 18 0) 0))) 0))) 100 27 ((va_up (va_up (u2 Z 100 18 0) 0 (f_Mod_copies (u2 Z 100 18 0) 0 9030 210 ((u2 Z 100 18 0) 0))) 0 (f_Mod_copies (va_up (u2 Z 100 18 0) 0 (f_Mod_copies (u2 Z 100 18 0) 0 9030 210 ((u2 Z 100 18 0) 0))) 630 9240 8400 ((va_up (u2 Z 100 18 0) 0 (f_Mod_copies (u2 Z 100 18 0) 0 9030 210 ((u2 Z 100 18 0) 0))) 0))) 100 24)) 100 25)) 100 26)) 0) 0 (z_image_55 _ _ (wfM.u100 (i := 29) (wfM.u100 (i := 28) (wfM.u100 (i := 27) (wfM.up0 (wfM.up0 (wfM.u100 (i := 18) hw (by decide)))) (by decide)) (by decide)) (by decide))) (by omega) (by omega) ?_
  refine pw_aload_n e_Mod_image_139 rfl ?_
  refine pw_iconst (v := nI 1) e_Mod_image_140 (by decide) ?_
  refine pw_putGi (i := 0) (ps := 30) (x := 1) e_Mod_image_141 fp_Mod_385 hnd (mo_x _ _) rfl (Nat.le_of_ble_eq_true rfl) rfl rfl (fun _ _ => rfl) ?_
  refine pw_vret e_Mod_image_144 rfl ?_
  rw [f_Mod_image] at hk
  exact hk
theorem q_Mod_image {g : GG} {h : Hp} (hst : (gl g).stackTraces = false) {A : Nat → Nat} (hnd : (gK (moL g A)).Nodup)  (Z : Nat → Nat → Int32) (hm : ∀ q ∈ gO (moL g A) Z, h q.1 = some q.2) (hw : wfM Z) : PM g M_Mod_image 1 0 0 [.ref (A 100)] h (RetV none (ov h (gO (moL g A) (f_Mod_image  Z)))) := by
  refine PM.of hst (by decide) rfl (fun v hv => ?_) (Nat.le_of_ble_eq_true rfl) ?_
  · simp only [List.mem_cons, List.not_mem_nil, or_false] at hv; rcases hv with rfl <;> rfl
  · have hq := w_Mod_image_0 (g := g) (Q := RetV none (ov h (gO (moL g A) (f_Mod_image  Z)))) (h := h) (kc := 0) (ks := 0) hst hnd Z hw ?_
    · rw [ov_self hm] at hq; exact hq
    · exact ⟨rfl, rfl⟩

def f_Mod_restore_123  : Nat → (Nat → Nat → Int32) → (Nat) → (Nat → Nat → Int32)
  | 0, Z, _ => Z
  | t + 1, Z, k => if 3 ≤ k then Z else f_Mod_restore_123  t (u2 Z 17 k ((Z 17) (3 + k))) (k + 1)
set_option maxRecDepth 4000 in
theorem w_Mod_restore_123 {g : GG} {Q : QT} {h : Hp} {kc ks : Nat} (hst : (gl g).stackTraces = false) {A : Nat → Nat} (hnd : (gK (moL g A)).Nodup)  (t : Nat) : ∀ (Z : Nat → Nat → Int32) (k : Nat) (hw : wfM Z) (hk9 : k ≤ 3) (hlt : 3 - k < t) (hk : PW g M_Mod_restore 1 kc ks Q 148 [.ref (A 100), .retAddr 0] [] (ov h (gO (moL g A) (f_Mod_restore_123  t Z k)))), PW g M_Mod_restore 1 kc ks Q 123 [.ref (A 100), .int (nI (k))] [] (ov h (gO (moL g A) Z)) := by
  induction t with
  | zero => intro Z k hw hk9 hlt _; exact absurd hlt (Nat.not_lt_zero _)
  | succ t ih =>
    intro Z k hw hk9 hlt hk
    have hz0 := hw.blk.2
    have hz1 := hw.lnk.2
    have hz2 := hw.dvs.2
    refine pw_iload_n e_Mod_restore_123 rfl ?_
    refine pw_iconst (v := nI 3) e_Mod_restore_124 (by decide) ?_
    refine pw_icmp_geN (tgt := 148) e_Mod_restore_125 (by decide) (by omega) (by omega) (fun (H1 : 3 ≤ k) => ?_) (fun (H1 : k < 3) => ?_)
    · refine pw_fgt (ls' := [.ref (A 100), .retAddr 0]) ⟨Or.inr rfl, Or.inl rfl, trivial⟩ ?_
      rw [f_Mod_restore_123, if_pos H1] at hk
      exact hk
    · refine pw_aload_n e_Mod_restore_128 rfl ?_
      refine pw_getf e_Mod_restore_129 fl_Mod_61 (gO_get hnd (i := 0) rfl) rfl ?_
      refine pw_iload_n e_Mod_restore_132 rfl ?_
      refine pw_aload_n e_Mod_restore_133 rfl ?_
      refine pw_getf e_Mod_restore_134 fl_Mod_61 (gO_get hnd (i := 0) rfl) rfl ?_
      refine pw_iconst (v := nI 3) e_Mod_restore_137 (by decide) ?_
      refine pw_iload_n e_Mod_restore_138 rfl ?_
      refine pw_iaddN e_Mod_restore_139 ?_
      refine pw_ialdN e_Mod_restore_140 (gO_get hnd (i := 18) rfl) (by omega) (by decide) ?_
      refine pw_iastG (i := 18) e_Mod_restore_141 hnd (mo_x _ _) rfl (by omega) (by decide) ?_
      refine pw_iincN (ls2 := [_, _]) e_Mod_restore_142 rfl (by decide) rfl ?_
      refine pw_goto (tgt := 123) e_Mod_restore_145 (by decide) ?_
      refine ih (u2 Z 17 k ((Z 17) (3 + k))) (k + 1) (wfM.uk (k := 17) hw (by decide)) (by omega) (by omega) ?_
      rw [f_Mod_restore_123, if_neg (Nat.not_le.mpr H1)] at hk
      exact hk
theorem z_restore_123 : ∀ (t : Nat) {Z : Nat → Nat → Int32} (k : Nat) (h : wfM Z), wfM (f_Mod_restore_123 t Z k) := by
  intro t
  induction t with
  | zero => intro Z k h; exact h
  | succ t ih =>
    intro Z k h
    rw [f_Mod_restore_123]
    repeat' split
    all_goals repeat (first | exact h | apply ih | apply wfM.up0 | refine wfM.u100 ?_ (by decide) | refine wfM.uk ?_ (by decide))
def f_Mod_restore_64  : Nat → (Nat → Nat → Int32) → (Nat) → (Nat → Nat → Int32)
  | 0, Z, _ => Z
  | t + 1, Z, k => if 6 ≤ k then Z else f_Mod_restore_64  t (u2 (u2 (u2 Z 14 k ((Z 14) (6 + k))) 15 k (((u2 Z 14 k ((Z 14) (6 + k))) 15) (6 + k))) 16 k (((u2 (u2 Z 14 k ((Z 14) (6 + k))) 15 k (((u2 Z 14 k ((Z 14) (6 + k))) 15) (6 + k))) 16) (6 + k))) (k + 1)
set_option maxRecDepth 4000 in
theorem w_Mod_restore_64 {g : GG} {Q : QT} {h : Hp} {kc ks : Nat} (hst : (gl g).stackTraces = false) {A : Nat → Nat} (hnd : (gK (moL g A)).Nodup)  (t : Nat) : ∀ (Z : Nat → Nat → Int32) (k : Nat) (hw : wfM Z) (hk9 : k ≤ 6) (hlt : 6 - k < t) (hk : PW g M_Mod_restore 1 kc ks Q 121 [.ref (A 100), .retAddr 0] [] (ov h (gO (moL g A) (f_Mod_restore_64  t Z k)))), PW g M_Mod_restore 1 kc ks Q 64 [.ref (A 100), .int (nI (k))] [] (ov h (gO (moL g A) Z)) := by
  induction t with
  | zero => intro Z k hw hk9 hlt _; exact absurd hlt (Nat.not_lt_zero _)
  | succ t ih =>
    intro Z k hw hk9 hlt hk
    have hz0 := hw.blk.2
    have hz1 := hw.lnk.2
    have hz2 := hw.dvs.2
    refine pw_iload_n e_Mod_restore_64 rfl ?_
    refine pw_bipush (v := nI 6) e_Mod_restore_65 (by decide) ?_
    refine pw_icmp_geN (tgt := 121) e_Mod_restore_67 (by decide) (by omega) (by omega) (fun (H1 : 6 ≤ k) => ?_) (fun (H1 : k < 6) => ?_)
    · refine pw_fgt (ls' := [.ref (A 100), .retAddr 0]) ⟨Or.inr rfl, Or.inl rfl, trivial⟩ ?_
      rw [f_Mod_restore_64, if_pos H1] at hk
      exact hk
    · refine pw_aload_n e_Mod_restore_70 rfl ?_
      refine pw_getf e_Mod_restore_71 fl_Mod_52 (gO_get hnd (i := 0) rfl) rfl ?_
      refine pw_iload_n e_Mod_restore_74 rfl ?_
      refine pw_aload_n e_Mod_restore_75 rfl ?_
      refine pw_getf e_Mod_restore_76 fl_Mod_52 (gO_get hnd (i := 0) rfl) rfl ?_
      refine pw_bipush (v := nI 6) e_Mod_restore_79 (by decide) ?_
      refine pw_iload_n e_Mod_restore_81 rfl ?_
      refine pw_iaddN e_Mod_restore_82 ?_
      refine pw_ialdN e_Mod_restore_83 (gO_get hnd (i := 15) rfl) (by omega) (by decide) ?_
      refine pw_iastG (i := 15) e_Mod_restore_84 hnd (mo_x _ _) rfl (by omega) (by decide) ?_
      refine pw_aload_n e_Mod_restore_85 rfl ?_
      refine pw_getf e_Mod_restore_86 fl_Mod_55 (gO_get hnd (i := 0) rfl) rfl ?_
      refine pw_iload_n e_Mod_restore_89 rfl ?_
      refine pw_aload_n e_Mod_restore_90 rfl ?_
      refine pw_getf e_Mod_restore_91 fl_Mod_55 (gO_get hnd (i := 0) rfl) rfl ?_
      refine pw_bipush (v := nI 6) e_Mod_restore_94 (by decide) ?_
      refine pw_iload_n e_Mod_restore_96 rfl ?_
      refine pw_iaddN e_Mod_restore_97 ?_
      refine pw_ialdN e_Mod_restore_98 (gO_get hnd (i := 16) rfl) (by omega) (by decide) ?_
      refine pw_iastG (i := 16) e_Mod_restore_99 hnd (mo_x _ _) rfl (by omega) (by decide) ?_
      refine pw_aload_n e_Mod_restore_100 rfl ?_
      refine pw_getf e_Mod_restore_101 fl_Mod_58 (gO_get hnd (i := 0) rfl) rfl ?_
      refine pw_iload_n e_Mod_restore_104 rfl ?_
      refine pw_aload_n e_Mod_restore_105 rfl ?_
      refine pw_getf e_Mod_restore_106 fl_Mod_58 (gO_get hnd (i := 0) rfl) rfl ?_
      refine pw_bipush (v := nI 6) e_Mod_restore_109 (by decide) ?_
      refine pw_iload_n e_Mod_restore_111 rfl ?_
      refine pw_iaddN e_Mod_restore_112 ?_
      refine pw_ialdN e_Mod_restore_113 (gO_get hnd (i := 17) rfl) (by omega) (by decide) ?_
      refine pw_iastG (i := 17) e_Mod_restore_114 hnd (mo_x _ _) rfl (by omega) (by decide) ?_
      refine pw_iincN (ls2 := [_, _]) e_Mod_restore_115 rfl (by decide) rfl ?_
      refine pw_goto (tgt := 64) e_Mod_restore_118 (by decide) ?_
      refine ih (u2 (u2 (u2 Z 14 k ((Z 14) (6 + k))) 15 k (((u2 Z 14 k ((Z 14) (6 + k))) 15) (6 + k))) 16 k (((u2 (u2 Z 14 k ((Z 14) (6 + k))) 15 k (((u2 Z 14 k ((Z 14) (6 + k))) 15) (6 + k))) 16) (6 + k))) (k + 1) (wfM.uk (k := 16) (wfM.uk (k := 15) (wfM.uk (k := 14) hw (by decide)) (by decide)) (by decide)) (by omega) (by omega) ?_
      rw [f_Mod_restore_64, if_neg (Nat.not_le.mpr H1)] at hk
      exact hk
theorem z_restore_64 : ∀ (t : Nat) {Z : Nat → Nat → Int32} (k : Nat) (h : wfM Z), wfM (f_Mod_restore_64 t Z k) := by
  intro t
  induction t with
  | zero => intro Z k h; exact h
  | succ t ih =>
    intro Z k h
    rw [f_Mod_restore_64]
    repeat' split
    all_goals repeat (first | exact h | apply ih | apply wfM.up0 | refine wfM.u100 ?_ (by decide) | refine wfM.uk ?_ (by decide))
def f_Mod_restore  (Z : Nat → Nat → Int32) : Int32 × (Nat → Nat → Int32) :=
  if ((u2 Z 100 18 0) 100 30) = 0 then (0, u2 Z 100 18 0) else (1, f_Mod_restore_123  4 (f_Mod_restore_64  7 (u2 (u2 (u2 (va_up (va_up (u2 Z 100 18 0) 0 (f_Mod_copies (u2 Z 100 18 0) 9030 0 210 ((u2 Z 100 18 0) 0))) 0 (f_Mod_copies (va_up (u2 Z 100 18 0) 0 (f_Mod_copies (u2 Z 100 18 0) 9030 0 210 ((u2 Z 100 18 0) 0))) 9240 630 8400 ((va_up (u2 Z 100 18 0) 0 (f_Mod_copies (u2 Z 100 18 0) 9030 0 210 ((u2 Z 100 18 0) 0))) 0))) 100 24 ((va_up (va_up (u2 Z 100 18 0) 0 (f_Mod_copies (u2 Z 100 18 0) 9030 0 210 ((u2 Z 100 18 0) 0))) 0 (f_Mod_copies (va_up (u2 Z 100 18 0) 0 (f_Mod_copies (u2 Z 100 18 0) 9030 0 210 ((u2 Z 100 18 0) 0))) 9240 630 8400 ((va_up (u2 Z 100 18 0) 0 (f_Mod_copies (u2 Z 100 18 0) 9030 0 210 ((u2 Z 100 18 0) 0))) 0))) 100 27)) 100 25 ((u2 (va_up (va_up (u2 Z 100 18 0) 0 (f_Mod_copies (u2 Z 100 18 0) 9030 0 210 ((u2 Z 100 18 0) 0))) 0 (f_Mod_copies (va_up (u2 Z 100 18 0) 0 (f_Mod_copies (u2 Z 100 18 0) 9030 0 210 ((u2 Z 100 18 0) 0))) 9240 630 8400 ((va_up (u2 Z 100 18 0) 0 (f_Mod_copies (u2 Z 100 18 0) 9030 0 210 ((u2 Z 100 18 0) 0))) 0))) 100 24 ((va_up (va_up (u2 Z 100 18 0) 0 (f_Mod_copies (u2 Z 100 18 0) 9030 0 210 ((u2 Z 100 18 0) 0))) 0 (f_Mod_copies (va_up (u2 Z 100 18 0) 0 (f_Mod_copies (u2 Z 100 18 0) 9030 0 210 ((u2 Z 100 18 0) 0))) 9240 630 8400 ((va_up (u2 Z 100 18 0) 0 (f_Mod_copies (u2 Z 100 18 0) 9030 0 210 ((u2 Z 100 18 0) 0))) 0))) 100 27)) 100 28)) 100 26 ((u2 (u2 (va_up (va_up (u2 Z 100 18 0) 0 (f_Mod_copies (u2 Z 100 18 0) 9030 0 210 ((u2 Z 100 18 0) 0))) 0 (f_Mod_copies (va_up (u2 Z 100 18 0) 0 (f_Mod_copies (u2 Z 100 18 0) 9030 0 210 ((u2 Z 100 18 0) 0))) 9240 630 8400 ((va_up (u2 Z 100 18 0) 0 (f_Mod_copies (u2 Z 100 18 0) 9030 0 210 ((u2 Z 100 18 0) 0))) 0))) 100 24 ((va_up (va_up (u2 Z 100 18 0) 0 (f_Mod_copies (u2 Z 100 18 0) 9030 0 210 ((u2 Z 100 18 0) 0))) 0 (f_Mod_copies (va_up (u2 Z 100 18 0) 0 (f_Mod_copies (u2 Z 100 18 0) 9030 0 210 ((u2 Z 100 18 0) 0))) 9240 630 8400 ((va_up (u2 Z 100 18 0) 0 (f_Mod_copies (u2 Z 100 18 0) 9030 0 210 ((u2 Z 100 18 0) 0))) 0))) 100 27)) 100 25 ((u2 (va_up (va_up (u2 Z 100 18 0) 0 (f_Mod_copies (u2 Z 100 18 0) 9030 0 210 ((u2 Z 100 18 0) 0))) 0 (f_Mod_copies (va_up (u2 Z 100 18 0) 0 (f_Mod_copies (u2 Z 100 18 0) 9030 0 210 ((u2 Z 100 18 0) 0))) 9240 630 8400 ((va_up (u2 Z 100 18 0) 0 (f_Mod_copies (u2 Z 100 18 0) 9030 0 210 ((u2 Z 100 18 0) 0))) 0))) 100 24 ((va_up (va_up (u2 Z 100 18 0) 0 (f_Mod_copies (u2 Z 100 18 0) 9030 0 210 ((u2 Z 100 18 0) 0))) 0 (f_Mod_copies (va_up (u2 Z 100 18 0) 0 (f_Mod_copies (u2 Z 100 18 0) 9030 0 210 ((u2 Z 100 18 0) 0))) 9240 630 8400 ((va_up (u2 Z 100 18 0) 0 (f_Mod_copies (u2 Z 100 18 0) 9030 0 210 ((u2 Z 100 18 0) 0))) 0))) 100 27)) 100 28)) 100 29)) 0) 0)
set_option maxRecDepth 4000 in
theorem w_Mod_restore_0 {g : GG} {Q : QT} {h : Hp} {kc ks : Nat} (hst : (gl g).stackTraces = false) {A : Nat → Nat} (hnd : (gK (moL g A)).Nodup)  (Z : Nat → Nat → Int32) (hw : wfM Z) (hk : Q (.inl (some (.int (f_Mod_restore  Z).1))) (ov h (gO (moL g A) ((f_Mod_restore  Z).2)))) : PW g M_Mod_restore 1 kc ks Q 0 [.ref (A 100), .retAddr 0] [] (ov h (gO (moL g A) Z)) := by
  have hz0 := hw.blk.2
  have hz1 := hw.lnk.2
  have hz2 := hw.dvs.2
  refine pw_aload_n e_Mod_restore_0 rfl ?_
  refine pw_iconst (v := nI 0) e_Mod_restore_1 (by decide) ?_
  refine pw_putGi (i := 0) (ps := 18) (x := 0) e_Mod_restore_2 fp_Mod_159 hnd (mo_x _ _) rfl (Nat.le_of_ble_eq_true rfl) rfl rfl (fun _ _ => rfl) ?_
  refine pw_aload_n e_Mod_restore_5 rfl ?_
  refine pw_getf e_Mod_restore_6 fl_Mod_385 (gO_get hnd (i := 0) rfl) rfl ?_
  refine pw_if_ne (tgt := 14) e_Mod_restore_9 (by decide) (fun (H1 : ¬ ((u2 Z 100 18 0) 100 30) = 0) => ?_) (fun (H1 : ((u2 Z 100 18 0) 100 30) = 0) => ?_)
  · refine pw_aload_n e_Mod_restore_14 rfl ?_
    refine pw_sipush (v := nI 9030) e_Mod_restore_15 (by decide) ?_
    refine pw_iconst (v := nI 0) e_Mod_restore_18 (by decide) ?_
    refine pw_sipush (v := nI 210) e_Mod_restore_19 (by decide) ?_
    refine pw_detV (As := [.int (nI (9030)), .int (nI (0)), .int (nI (210))]) e_Mod_restore_22 li_Mod_406 rfl (gO_get hnd (i := 0) rfl) (q_Mod_copies hst (mo_at hnd) (wfM.u100 (i := 18) hw (by decide)) 9030 0 210 (by omega) (by omega) ((u2 Z 100 18 0) 0) (gO_get hnd (i := 1) rfl)) rfl (by decide) (Nat.le_of_ble_eq_true rfl) rfl ?_
    refine pw_upG (i := 1) hnd (mo_x _ _) rfl rfl ?_
    refine pw_aload_n e_Mod_restore_25 rfl ?_
    refine pw_sipush (v := nI 9240) e_Mod_restore_26 (by decide) ?_
    refine pw_sipush (v := nI 630) e_Mod_restore_29 (by decide) ?_
    refine pw_sipush (v := nI 8400) e_Mod_restore_32 (by decide) ?_
    refine pw_detV (As := [.int (nI (9240)), .int (nI (630)), .int (nI (8400))]) e_Mod_restore_35 li_Mod_406 rfl (gO_get hnd (i := 0) rfl) (q_Mod_copies hst (mo_at hnd) (wfM.up0 (wfM.u100 (i := 18) hw (by decide))) 9240 630 8400 (by omega) (by omega) ((va_up (u2 Z 100 18 0) 0 (f_Mod_copies (u2 Z 100 18 0) 9030 0 210 ((u2 Z 100 18 0) 0))) 0) (gO_get hnd (i := 1) rfl)) rfl (by decide) (Nat.le_of_ble_eq_true rfl) rfl ?_
    refine pw_upG (i := 1) hnd (mo_x _ _) rfl rfl ?_
    refine pw_aload_n e_Mod_restore_38 rfl ?_
    refine pw_aload_n e_Mod_restore_39 rfl ?_
    refine pw_getf e_Mod_restore_40 fl_Mod_463 (gO_get hnd (i := 0) rfl) rfl ?_
    refine pw_putGi (i := 0) (ps := 24) (x := (va_up (va_up (u2 Z 100 18 0) 0 (f_Mod_copies (u2 Z 100 18 0) 9030 0 210 ((u2 Z 100 18 0) 0))) 0 (f_Mod_copies (va_up (u2 Z 100 18 0) 0 (f_Mod_copies (u2 Z 100 18 0) 9030 0 210 ((u2 Z 100 18 0) 0))) 9240 630 8400 ((va_up (u2 Z 100 18 0) 0 (f_Mod_copies (u2 Z 100 18 0) 9030 0 210 ((u2 Z 100 18 0) 0))) 0))) 100 27) e_Mod_restore_43 fp_Mod_394 hnd (mo_x _ _) rfl (Nat.le_of_ble_eq_true rfl) rfl rfl (fun _ _ => rfl) ?_
    refine pw_aload_n e_Mod_restore_46 rfl ?_
    refine pw_aload_n e_Mod_restore_47 rfl ?_
    refine pw_getf e_Mod_restore_48 fl_Mod_466 (gO_get hnd (i := 0) rfl) rfl ?_
    refine pw_putGi (i := 0) (ps := 25) (x := (u2 (va_up (va_up (u2 Z 100 18 0) 0 (f_Mod_copies (u2 Z 100 18 0) 9030 0 210 ((u2 Z 100 18 0) 0))) 0 (f_Mod_copies (va_up (u2 Z 100 18 0) 0 (f_Mod_copies (u2 Z 100 18 0) 9030 0 210 ((u2 Z 100 18 0) 0))) 9240 630 8400 ((va_up (u2 Z 100 18 0) 0 (f_Mod_copies (u2 Z 100 18 0) 9030 0 210 ((u2 Z 100 18 0) 0))) 0))) 100 24 ((va_up (va_up (u2 Z 100 18 0) 0 (f_Mod_copies (u2 Z 100 18 0) 9030 0 210 ((u2 Z 100 18 0) 0))) 0 (f_Mod_copies (va_up (u2 Z 100 18 0) 0 (f_Mod_copies (u2 Z 100 18 0) 9030 0 210 ((u2 Z 100 18 0) 0))) 9240 630 8400 ((va_up (u2 Z 100 18 0) 0 (f_Mod_copies (u2 Z 100 18 0) 9030 0 210 ((u2 Z 100 18 0) 0))) 0))) 100 27)) 100 28) e_Mod_restore_51 fp_Mod_391 hnd (mo_x _ _) rfl (Nat.le_of_ble_eq_true rfl) rfl rfl (fun _ _ => rfl) ?_
    refine pw_aload_n e_Mod_restore_54 rfl ?_
    refine pw_aload_n e_Mod_restore_55 rfl ?_
    refine pw_getf e_Mod_restore_56 fl_Mod_469 (gO_get hnd (i := 0) rfl) rfl ?_
    refine pw_putGi (i := 0) (ps := 26) (x := (u2 (u2 (va_up (va_up (u2 Z 100 18 0) 0 (f_Mod_copies (u2 Z 100 18 0) 9030 0 210 ((u2 Z 100 18 0) 0))) 0 (f_Mod_copies (va_up (u2 Z 100 18 0) 0 (f_Mod_copies (u2 Z 100 18 0) 9030 0 210 ((u2 Z 100 18 0) 0))) 9240 630 8400 ((va_up (u2 Z 100 18 0) 0 (f_Mod_copies (u2 Z 100 18 0) 9030 0 210 ((u2 Z 100 18 0) 0))) 0))) 100 24 ((va_up (va_up (u2 Z 100 18 0) 0 (f_Mod_copies (u2 Z 100 18 0) 9030 0 210 ((u2 Z 100 18 0) 0))) 0 (f_Mod_copies (va_up (u2 Z 100 18 0) 0 (f_Mod_copies (u2 Z 100 18 0) 9030 0 210 ((u2 Z 100 18 0) 0))) 9240 630 8400 ((va_up (u2 Z 100 18 0) 0 (f_Mod_copies (u2 Z 100 18 0) 9030 0 210 ((u2 Z 100 18 0) 0))) 0))) 100 27)) 100 25 ((u2 (va_up (va_up (u2 Z 100 18 0) 0 (f_Mod_copies (u2 Z 100 18 0) 9030 0 210 ((u2 Z 100 18 0) 0))) 0 (f_Mod_copies (va_up (u2 Z 100 18 0) 0 (f_Mod_copies (u2 Z 100 18 0) 9030 0 210 ((u2 Z 100 18 0) 0))) 9240 630 8400 ((va_up (u2 Z 100 18 0) 0 (f_Mod_copies (u2 Z 100 18 0) 9030 0 210 ((u2 Z 100 18 0) 0))) 0))) 100 24 ((va_up (va_up (u2 Z 100 18 0) 0 (f_Mod_copies (u2 Z 100 18 0) 9030 0 210 ((u2 Z 100 18 0) 0))) 0 (f_Mod_copies (va_up (u2 Z 100 18 0) 0 (f_Mod_copies (u2 Z 100 18 0) 9030 0 210 ((u2 Z 100 18 0) 0))) 9240 630 8400 ((va_up (u2 Z 100 18 0) 0 (f_Mod_copies (u2 Z 100 18 0) 9030 0 210 ((u2 Z 100 18 0) 0))) 0))) 100 27)) 100 28)) 100 29) e_Mod_restore_59 fp_Mod_388 hnd (mo_x _ _) rfl (Nat.le_of_ble_eq_true rfl) rfl rfl (fun _ _ => rfl) ?_
    refine pw_iconst (v := nI 0) e_Mod_restore_62 (by decide) ?_
    refine pw_istore_n (ls2 := [_, _]) e_Mod_restore_63 (by decide) rfl ?_
    refine w_Mod_restore_64 hst hnd 7 (u2 (u2 (u2 (va_up (va_up (u2 Z 100 18 0) 0 (f_Mod_copies (u2 Z 100 18 0) 9030 0 210 ((u2 Z 100 18 0) 0))) 0 (f_Mod_copies (va_up (u2 Z 100 18 0) 0 (f_Mod_copies (u2 Z 100 18 0) 9030 0 210 ((u2 Z 100 18 0) 0))) 9240 630 8400 ((va_up (u2 Z 100 18 0) 0 (f_Mod_copies (u2 Z 100 18 0) 9030 0 210 ((u2 Z 100 18 0) 0))) 0))) 100 24 ((va_up (va_up (u2 Z 100 18 0) 0 (f_Mod_copies (u2 Z 100 18 0) 9030 0 210 ((u2 Z 100 18 0) 0))) 0 (f_Mod_copies (va_up (u2 Z 100 18 0) 0 (f_Mod_copies (u2 Z 100 18 0) 9030 0 210 ((u2 Z 100 18 0) 0))) 9240 630 8400 ((va_up (u2 Z 100 18 0) 0 (f_Mod_copies (u2 Z 100 18 0) 9030 0 210 ((u2 Z 100 18 0) 0))) 0))) 100 27)) 100 25 ((u2 (va_up (va_up (u2 Z 100 18 0) 0 (f_Mod_copies (u2 Z 100 18 0) 9030 0 210 ((u2 Z 100 18 0) 0))) 0 (f_Mod_copies (va_up (u2 Z 100 18 0) 0 (f_Mod_copies (u2 Z 100 18 0) 9030 0 210 ((u2 Z 100 18 0) 0))) 9240 630 8400 ((va_up (u2 Z 100 18 0) 0 (f_Mod_copies (u2 Z 100 18 0) 9030 0 210 ((u2 Z 100 18 0) 0))) 0))) 100 24 ((va_up (va_up (u2 Z 100 18 0) 0 (f_Mod_copies (u2 Z 100 18 0) 9030 0 210 ((u2 Z 100 18 0) 0))) 0 (f_Mod_copies (va_up (u2 Z 100 18 0) 0 (f_Mod_copies (u2 Z 100 18 0) 9030 0 210 ((u2 Z 100 18 0) 0))) 9240 630 8400 ((va_up (u2 Z 100 18 0) 0 (f_Mod_copies (u2 Z 100 18 0) 9030 0 210 ((u2 Z 100 18 0) 0))) 0))) 100 27)) 100 28)) 100 26 ((u2 (u2 (va_up (va_up (u2 Z 100 18 0) 0 (f_Mod_copies (u2 Z 100 18 0) 9030 0 210 ((u2 Z 100 18 0) 0))) 0 (f_Mod_copies (va_up (u2 Z 100 18 0) 0 (f_Mod_copies (u2 Z 100 18 0) 9030 0 210 ((u2 Z 100 18 0) 0))) 9240 630 8400 ((va_up (u2 Z 100 18 0) 0 (f_Mod_copies (u2 Z 100 18 0) 9030 0 210 ((u2 Z 100 18 0) 0))) 0))) 100 24 ((va_up (va_up (u2 Z 100 18 0) 0 (f_Mod_copies (u2 Z 100 18 0) 9030 0 210 ((u2 Z 100 18 0) 0))) 0 (f_Mod_copies (va_up (u2 Z 100 18 0) 0 (f_Mod_copies (u2 Z 100 18 0) 9030 0 210 ((u2 Z 100 18 0) 0))) 9240 630 8400 ((va_up (u2 Z 100 18 0) 0 (f_Mod_copies (u2 Z 100 18 0) 9030 0 210 ((u2 Z 100 18 0) 0))) 0))) 100 27)) 100 25 ((u2 (va_up (va_up (u2 Z 100 18 0) 0 (f_Mod_copies (u2 Z 100 18 0) 9030 0 210 ((u2 Z 100 18 0) 0))) 0 (f_Mod_copies (va_up (u2 Z 100 18 0) 0 (f_Mod_copies (u2 Z 100 18 0) 9030 0 210 ((u2 Z 100 18 0) 0))) 9240 630 8400 ((va_up (u2 Z 100 18 0) 0 (f_Mod_copies (u2 Z 100 18 0) 9030 0 210 ((u2 Z 100 18 0) 0))) 0))) 100 24 ((va_up (va_up (u2 Z 100 18 0) 0 (f_Mod_copies (u2 Z 100 18 0) 9030 0 210 ((u2 Z 100 18 0) 0))) 0 (f_Mod_copies (va_up (u2 Z 100 18 0) 0 (f_Mod_copies (u2 Z 100 18 0) 9030 0 210 ((u2 Z 100 18 0) 0))) 9240 630 8400 ((va_up (u2 Z 100 18 0) 0 (f_Mod_copies (u2 Z 100 18 0) 9030 0 210 ((u2 Z 100 18 0) 0))) 0))) 100 27)) 100 28)) 100 29)) 0 (wfM.u100 (i := 26) (wfM.u100 (i := 25) (wfM.u100 (i := 24) (wfM.up0 (wfM.up0 (wfM.u100 (i := 18) hw (by decide)))) (by decide)) (by decide)) (by decide)) (by omega) (by omega) ?_
    refine pw_iconst (v := nI 0) e_Mod_restore_121 (by decide) ?_
    refine pw_istore_n (ls2 := [_, _]) e_Mod_restore_122 (by decide) rfl ?_
    refine w_Mod_restore_123 hst hnd 4 (f_Mod_restore_64  7 (u2 (u2 (u2 (va_up (va_up (u2 Z 100 18 0) 0 (f_Mod_copies (u2 Z 100 18 0) 9030 0 210 ((u2 Z 100 18 0) 0))) 0 (f_Mod_copies (va_up (u2 Z 100 18 0) 0 (f_Mod_copies (u2 Z 100 18 0) 9030 0 210 ((u2 Z 100 18 0) 0))) 9240 630 8400 ((va_up (u2 Z 100 18 0) 0 (f_Mod_copies (u2 Z 100 18 0) 9030 0 210 ((u2 Z 100 18 0) 0))) 0))) 100 24 ((va_up (va_up (u2 Z 100 18 0) 0 (f_Mod_copies (u2 Z 100 18 0) 9030 0 210 ((u2 Z 100 18 0) 0))) 0 (f_Mod_copies (va_up (u2 Z 100 18 0) 0 (f_Mod_copies (u2 Z 100 18 0) 9030 0 210 ((u2 Z 100 18 0) 0))) 9240 630 8400 ((va_up (u2 Z 100 18 0) 0 (f_Mod_copies (u2 Z 100 18 0) 9030 0 210 ((u2 Z 100 18 0) 0))) 0))) 100 27)) 100 25 ((u2 (va_up (va_up (u2 Z 100 18 0) 0 (f_Mod_copies (u2 Z 100 18 0) 9030 0 210 ((u2 Z 100 18 0) 0))) 0 (f_Mod_copies (va_up (u2 Z 100 18 0) 0 (f_Mod_copies (u2 Z 100 18 0) 9030 0 210 ((u2 Z 100 18 0) 0))) 9240 630 8400 ((va_up (u2 Z 100 18 0) 0 (f_Mod_copies (u2 Z 100 18 0) 9030 0 210 ((u2 Z 100 18 0) 0))) 0))) 100 24 ((va_up (va_up (u2 Z 100 18 0) 0 (f_Mod_copies (u2 Z 100 18 0) 9030 0 210 ((u2 Z 100 18 0) 0))) 0 (f_Mod_copies (va_up (u2 Z 100 18 0) 0 (f_Mod_copies (u2 Z 100 18 0) 9030 0 210 ((u2 Z 100 18 0) 0))) 9240 630 8400 ((va_up (u2 Z 100 18 0) 0 (f_Mod_copies (u2 Z 100 18 0) 9030 0 210 ((u2 Z 100 18 0) 0))) 0))) 100 27)) 100 28)) 100 26 ((u2 (u2 (va_up (va_up (u2 Z 100 18 0) 0 (f_Mod_copies (u2 Z 100 18 0) 9030 0 210 ((u2 Z 100 18 0) 0))) 0 (f_Mod_copies (va_up (u2 Z 100 18 0) 0 (f_Mod_copies (u2 Z 100 18 0) 9030 0 210 ((u2 Z 100 18 0) 0))) 9240 630 8400 ((va_up (u2 Z 100 18 0) 0 (f_Mod_copies (u2 Z 100 18 0) 9030 0 210 ((u2 Z 100 18 0) 0))) 0))) 100 24 ((va_up (va_up (u2 Z 100 18 0) 0 (f_Mod_copies (u2 Z 100 18 0) 9030 0 210 ((u2 Z 100 18 0) 0))) 0 (f_Mod_copies (va_up (u2 Z 100 18 0) 0 (f_Mod_copies (u2 Z 100 18 0) 9030 0 210 ((u2 Z 100 18 0) 0))) 9240 630 8400 ((va_up (u2 Z 100 18 0) 0 (f_Mod_copies (u2 Z 100 18 0) 9030 0 210 ((u2 Z 100 18 0) 0))) 0))) 100 27)) 100 25 ((u2 (va_up (va_up (u2 Z 100 18 0) 0 (f_Mod_copies (u2 Z 100 18 0) 9030 0 210 ((u2 Z 100 18 0) 0))) 0 (f_Mod_copies (va_up (u2 Z 100 18 0) 0 (f_Mod_copies (u2 Z 100 18 0) 9030 0 210 ((u2 Z 100 18 0) 0))) 9240 630 8400 ((va_up (u2 Z 100 18 0) 0 (f_Mod_copies (u2 Z 100 18 0) 9030 0 210 ((u2 Z 100 18 0) 0))) 0))) 100 24 ((va_up (va_up (u2 Z 100 18 0) 0 (f_Mod_copies (u2 Z 100 18 0) 9030 0 210 ((u2 Z 100 18 0) 0))) 0 (f_Mod_copies (va_up (u2 Z 100 18 0) 0 (f_Mod_copies (u2 Z 100 18 0) 9030 0 210 ((u2 Z 100 18 0) 0))) 9240 630 8400 ((va_up (u2 Z 100 18 0) 0 (f_Mod_copies (u2 Z 100 18 0) 9030 0 210 ((u2 Z 100 18 0) 0))) 0))) 100 27)) 100 28)) 100 29)) 0) 0 (z_restore_64 _ _ (wfM.u100 (i := 26) (wfM.u100 (i := 25) (wfM.u100 (i := 24) (wfM.up0 (wfM.up0 (wfM.u100 (i := 18) hw (by decide)))) (by decide)) (by decide)) (by decide))) (by omega) (by omega) ?_
    refine pw_iconst (v := nI 1) e_Mod_restore_148 (by decide) ?_
    refine pw_iret e_Mod_restore_149 rfl (by decide) ?_
    rw [f_Mod_restore, if_neg H1] at hk
    exact hk
  · refine pw_iconst (v := nI 0) e_Mod_restore_12 (by decide) ?_
    refine pw_iret e_Mod_restore_13 rfl (by decide) ?_
    rw [f_Mod_restore, if_pos H1] at hk
    exact hk
theorem q_Mod_restore {g : GG} {h : Hp} (hst : (gl g).stackTraces = false) {A : Nat → Nat} (hnd : (gK (moL g A)).Nodup)  (Z : Nat → Nat → Int32) (hm : ∀ q ∈ gO (moL g A) Z, h q.1 = some q.2) (hw : wfM Z) : PM g M_Mod_restore 1 0 0 [.ref (A 100)] h (RetV (some (.int (f_Mod_restore  Z).1)) (ov h (gO (moL g A) ((f_Mod_restore  Z).2)))) := by
  refine PM.of hst (by decide) rfl (fun v hv => ?_) (Nat.le_of_ble_eq_true rfl) ?_
  · simp only [List.mem_cons, List.not_mem_nil, or_false] at hv; rcases hv with rfl <;> rfl
  · have hq := w_Mod_restore_0 (g := g) (Q := RetV (some (.int (f_Mod_restore  Z).1)) (ov h (gO (moL g A) ((f_Mod_restore  Z).2)))) (h := h) (kc := 0) (ks := 0) hst hnd Z hw ?_
    · rw [ov_self hm] at hq; exact hq
    · exact ⟨rfl, rfl⟩

def f_Mod_feed_23 (n : Nat) (a : Int32) (b : Int32) (c : Int32) (d : Int32) (e : Int32) : Nat → (Nat → Nat → Int32) → (Nat) → Int32 × (Nat → Nat → Int32)
  | 0, Z, _ => (0, Z)
  | t + 1, Z, k => if 20 ≤ k then (nI (n + 20), u2 Z 100 32 (nI (n + 20))) else if 4 ≤ k then if 8 ≤ k then if 12 ≤ k then if 16 ≤ k then f_Mod_feed_23 n a b c d e t (u2 Z 31 (n + k) ((e >>> ((nI (24 - (8 * (k % 4)))) &&& 31)) &&& 255)) (k + 1) else f_Mod_feed_23 n a b c d e t (u2 Z 31 (n + k) ((d >>> ((nI (24 - (8 * (k % 4)))) &&& 31)) &&& 255)) (k + 1) else f_Mod_feed_23 n a b c d e t (u2 Z 31 (n + k) ((c >>> ((nI (24 - (8 * (k % 4)))) &&& 31)) &&& 255)) (k + 1) else f_Mod_feed_23 n a b c d e t (u2 Z 31 (n + k) ((b >>> ((nI (24 - (8 * (k % 4)))) &&& 31)) &&& 255)) (k + 1) else f_Mod_feed_23 n a b c d e t (u2 Z 31 (n + k) ((a >>> ((nI (24 - (8 * (k % 4)))) &&& 31)) &&& 255)) (k + 1)
set_option maxRecDepth 4000 in
theorem w_Mod_feed_23 {g : GG} {Q : QT} {h : Hp} {kc ks : Nat} (hst : (gl g).stackTraces = false) {A : Nat → Nat} (hnd : (gK (moL g A)).Nodup) (n : Nat) (a : Int32) (b : Int32) (c : Int32) (d : Int32) (e : Int32) (hn : n ≤ 900)  (t : Nat) : ∀ (Z : Nat → Nat → Int32) (k : Nat) (hw : wfM Z) (ht : Z 100 32 = nI n) (hn20 : n + 20 ≤ 900) (hk9 : k ≤ 20) (hlt : 20 - k < t) (hk : Q (.inl (some (.int (f_Mod_feed_23 n a b c d e t Z k).1))) (ov h (gO (moL g A) ((f_Mod_feed_23 n a b c d e t Z k).2)))), PW g M_Mod_feed 0 kc ks Q 23 [.ref (A 100), .int (a), .int (b), .int (c), .int (d), .int (e), .int (nI (k)), .retAddr 0] [] (ov h (gO (moL g A) Z)) := by
  induction t with
  | zero => intro Z k hw ht hn20 hk9 hlt _; exact absurd hlt (Nat.not_lt_zero _)
  | succ t ih =>
    intro Z k hw ht hn20 hk9 hlt hk
    have hz0 := hw.blk.2
    have hz1 := hw.lnk.2
    have hz2 := hw.dvs.2
    refine pw_iload e_Mod_feed_23 rfl ?_
    refine pw_bipush (v := nI 20) e_Mod_feed_25 (by decide) ?_
    refine pw_icmp_geN (tgt := 113) e_Mod_feed_27 (by decide) (by omega) (by omega) (fun (H1 : 20 ≤ k) => ?_) (fun (H1 : k < 20) => ?_)
    · refine pw_aload_n e_Mod_feed_113 rfl ?_
      refine pw_dup e_Mod_feed_114 rfl ?_
      refine pw_getf e_Mod_feed_115 fl_Mod_369 (gO_get hnd (i := 0) rfl) rfl ?_
      refine pw_eqst (congrArg (fun q => Value.int q :: [.ref (A 100)]) (show _ = nI (n) from ht)) ?_
      refine pw_bipush (v := nI 20) e_Mod_feed_118 (by decide) ?_
      refine pw_iaddN e_Mod_feed_120 ?_
      refine pw_putGi (i := 0) (ps := 32) (x := nI (n + 20)) e_Mod_feed_121 fp_Mod_369 hnd (mo_x _ _) rfl (Nat.le_of_ble_eq_true rfl) rfl rfl (fun _ _ => rfl) ?_
      refine pw_aload_n e_Mod_feed_124 rfl ?_
      refine pw_getf e_Mod_feed_125 fl_Mod_369 (gO_get hnd (i := 0) rfl) rfl ?_
      refine pw_eqst (congrArg (fun q => Value.int q :: []) (show _ = nI (n + 20) from u2_s)) ?_
      refine pw_iret e_Mod_feed_128 rfl rfl ?_
      rw [f_Mod_feed_23, if_pos H1] at hk
      exact hk
    · refine pw_iload e_Mod_feed_30 rfl ?_
      refine pw_iconst (v := nI 4) e_Mod_feed_32 (by decide) ?_
      refine pw_icmp_geN (tgt := 40) e_Mod_feed_33 (by decide) (by omega) (by omega) (fun (H2 : 4 ≤ k) => ?_) (fun (H2 : k < 4) => ?_)
      · refine pw_iload e_Mod_feed_40 rfl ?_
        refine pw_bipush (v := nI 8) e_Mod_feed_42 (by decide) ?_
        refine pw_icmp_geN (tgt := 51) e_Mod_feed_44 (by decide) (by omega) (by omega) (fun (H3 : 8 ≤ k) => ?_) (fun (H3 : k < 8) => ?_)
        · refine pw_iload e_Mod_feed_51 rfl ?_
          refine pw_bipush (v := nI 12) e_Mod_feed_53 (by decide) ?_
          refine pw_icmp_geN (tgt := 62) e_Mod_feed_55 (by decide) (by omega) (by omega) (fun (H4 : 12 ≤ k) => ?_) (fun (H4 : k < 12) => ?_)
          · refine pw_iload e_Mod_feed_62 rfl ?_
            refine pw_bipush (v := nI 16) e_Mod_feed_64 (by decide) ?_
            refine pw_icmp_geN (tgt := 74) e_Mod_feed_66 (by decide) (by omega) (by omega) (fun (H5 : 16 ≤ k) => ?_) (fun (H5 : k < 16) => ?_)
            · refine pw_iload e_Mod_feed_74 rfl ?_
              refine pw_istore (ls2 := [_, _, _, _, _, _, _, _]) e_Mod_feed_76 (by decide) rfl ?_
              refine pw_aload_n e_Mod_feed_78 rfl ?_
              refine pw_getf e_Mod_feed_79 fl_Mod_74 (gO_get hnd (i := 0) rfl) rfl ?_
              refine pw_aload_n e_Mod_feed_82 rfl ?_
              refine pw_getf e_Mod_feed_83 fl_Mod_369 (gO_get hnd (i := 0) rfl) rfl ?_
              refine pw_eqst (congrArg (fun q => Value.int q :: [.ref (A 31)]) (show _ = nI (n) from ht)) ?_
              refine pw_iload e_Mod_feed_86 rfl ?_
              refine pw_iaddN e_Mod_feed_88 ?_
              refine pw_iload e_Mod_feed_89 rfl ?_
              refine pw_bipush (v := nI 24) e_Mod_feed_91 (by decide) ?_
              refine pw_bipush (v := nI 8) e_Mod_feed_93 (by decide) ?_
              refine pw_iload e_Mod_feed_95 rfl ?_
              refine pw_iconst (v := nI 4) e_Mod_feed_97 (by decide) ?_
              refine pw_iremN (by omega) (by omega) (by omega) e_Mod_feed_98 ?_
              refine pw_imulN e_Mod_feed_99 ?_
              refine pw_isubN (by omega) e_Mod_feed_100 ?_
              refine pw_ishr e_Mod_feed_101 ?_
              refine pw_sipush (v := nI 255) e_Mod_feed_102 (by decide) ?_
              refine pw_iand e_Mod_feed_105 ?_
              refine pw_iastG (i := 19) e_Mod_feed_106 hnd (mo_x _ _) rfl (by omega) (by decide) ?_
              refine pw_iincN (ls2 := [_, _, _, _, _, _, _, _]) e_Mod_feed_107 rfl (by decide) rfl ?_
              refine pw_goto (tgt := 23) e_Mod_feed_110 (by decide) ?_
              refine pw_fgt (ls' := [.ref (A 100), .int (a), .int (b), .int (c), .int (d), .int (e), .int (nI (k + 1)), .retAddr 0]) ⟨Or.inr rfl, Or.inr rfl, Or.inr rfl, Or.inr rfl, Or.inr rfl, Or.inr rfl, Or.inr rfl, Or.inl rfl, trivial⟩ ?_
              refine ih (u2 Z 31 (n + k) ((e >>> ((nI (24 - (8 * (k % 4)))) &&& 31)) &&& 255)) (k + 1) (wfM.uk (k := 31) hw (by decide)) (by exact ht) (by omega) (by omega) (by omega) ?_
              rw [f_Mod_feed_23, if_neg (Nat.not_le.mpr H1), if_pos H2, if_pos H3, if_pos H4, if_pos H5] at hk
              exact hk
            · refine pw_iload e_Mod_feed_69 rfl ?_
              refine pw_goto (tgt := 76) e_Mod_feed_71 (by decide) ?_
              refine pw_istore (ls2 := [_, _, _, _, _, _, _, _]) e_Mod_feed_76 (by decide) rfl ?_
              refine pw_aload_n e_Mod_feed_78 rfl ?_
              refine pw_getf e_Mod_feed_79 fl_Mod_74 (gO_get hnd (i := 0) rfl) rfl ?_
              refine pw_aload_n e_Mod_feed_82 rfl ?_
              refine pw_getf e_Mod_feed_83 fl_Mod_369 (gO_get hnd (i := 0) rfl) rfl ?_
              refine pw_eqst (congrArg (fun q => Value.int q :: [.ref (A 31)]) (show _ = nI (n) from ht)) ?_
              refine pw_iload e_Mod_feed_86 rfl ?_
              refine pw_iaddN e_Mod_feed_88 ?_
              refine pw_iload e_Mod_feed_89 rfl ?_
              refine pw_bipush (v := nI 24) e_Mod_feed_91 (by decide) ?_
              refine pw_bipush (v := nI 8) e_Mod_feed_93 (by decide) ?_
              refine pw_iload e_Mod_feed_95 rfl ?_
              refine pw_iconst (v := nI 4) e_Mod_feed_97 (by decide) ?_
              refine pw_iremN (by omega) (by omega) (by omega) e_Mod_feed_98 ?_
              refine pw_imulN e_Mod_feed_99 ?_
              refine pw_isubN (by omega) e_Mod_feed_100 ?_
              refine pw_ishr e_Mod_feed_101 ?_
              refine pw_sipush (v := nI 255) e_Mod_feed_102 (by decide) ?_
              refine pw_iand e_Mod_feed_105 ?_
              refine pw_iastG (i := 19) e_Mod_feed_106 hnd (mo_x _ _) rfl (by omega) (by decide) ?_
              refine pw_iincN (ls2 := [_, _, _, _, _, _, _, _]) e_Mod_feed_107 rfl (by decide) rfl ?_
              refine pw_goto (tgt := 23) e_Mod_feed_110 (by decide) ?_
              refine pw_fgt (ls' := [.ref (A 100), .int (a), .int (b), .int (c), .int (d), .int (e), .int (nI (k + 1)), .retAddr 0]) ⟨Or.inr rfl, Or.inr rfl, Or.inr rfl, Or.inr rfl, Or.inr rfl, Or.inr rfl, Or.inr rfl, Or.inl rfl, trivial⟩ ?_
              refine ih (u2 Z 31 (n + k) ((d >>> ((nI (24 - (8 * (k % 4)))) &&& 31)) &&& 255)) (k + 1) (wfM.uk (k := 31) hw (by decide)) (by exact ht) (by omega) (by omega) (by omega) ?_
              rw [f_Mod_feed_23, if_neg (Nat.not_le.mpr H1), if_pos H2, if_pos H3, if_pos H4, if_neg (Nat.not_le.mpr H5)] at hk
              exact hk
          · refine pw_iload_n e_Mod_feed_58 rfl ?_
            refine pw_goto (tgt := 76) e_Mod_feed_59 (by decide) ?_
            refine pw_istore (ls2 := [_, _, _, _, _, _, _, _]) e_Mod_feed_76 (by decide) rfl ?_
            refine pw_aload_n e_Mod_feed_78 rfl ?_
            refine pw_getf e_Mod_feed_79 fl_Mod_74 (gO_get hnd (i := 0) rfl) rfl ?_
            refine pw_aload_n e_Mod_feed_82 rfl ?_
            refine pw_getf e_Mod_feed_83 fl_Mod_369 (gO_get hnd (i := 0) rfl) rfl ?_
            refine pw_eqst (congrArg (fun q => Value.int q :: [.ref (A 31)]) (show _ = nI (n) from ht)) ?_
            refine pw_iload e_Mod_feed_86 rfl ?_
            refine pw_iaddN e_Mod_feed_88 ?_
            refine pw_iload e_Mod_feed_89 rfl ?_
            refine pw_bipush (v := nI 24) e_Mod_feed_91 (by decide) ?_
            refine pw_bipush (v := nI 8) e_Mod_feed_93 (by decide) ?_
            refine pw_iload e_Mod_feed_95 rfl ?_
            refine pw_iconst (v := nI 4) e_Mod_feed_97 (by decide) ?_
            refine pw_iremN (by omega) (by omega) (by omega) e_Mod_feed_98 ?_
            refine pw_imulN e_Mod_feed_99 ?_
            refine pw_isubN (by omega) e_Mod_feed_100 ?_
            refine pw_ishr e_Mod_feed_101 ?_
            refine pw_sipush (v := nI 255) e_Mod_feed_102 (by decide) ?_
            refine pw_iand e_Mod_feed_105 ?_
            refine pw_iastG (i := 19) e_Mod_feed_106 hnd (mo_x _ _) rfl (by omega) (by decide) ?_
            refine pw_iincN (ls2 := [_, _, _, _, _, _, _, _]) e_Mod_feed_107 rfl (by decide) rfl ?_
            refine pw_goto (tgt := 23) e_Mod_feed_110 (by decide) ?_
            refine pw_fgt (ls' := [.ref (A 100), .int (a), .int (b), .int (c), .int (d), .int (e), .int (nI (k + 1)), .retAddr 0]) ⟨Or.inr rfl, Or.inr rfl, Or.inr rfl, Or.inr rfl, Or.inr rfl, Or.inr rfl, Or.inr rfl, Or.inl rfl, trivial⟩ ?_
            refine ih (u2 Z 31 (n + k) ((c >>> ((nI (24 - (8 * (k % 4)))) &&& 31)) &&& 255)) (k + 1) (wfM.uk (k := 31) hw (by decide)) (by exact ht) (by omega) (by omega) (by omega) ?_
            rw [f_Mod_feed_23, if_neg (Nat.not_le.mpr H1), if_pos H2, if_pos H3, if_neg (Nat.not_le.mpr H4)] at hk
            exact hk
        · refine pw_iload_n e_Mod_feed_47 rfl ?_
          refine pw_goto (tgt := 76) e_Mod_feed_48 (by decide) ?_
          refine pw_istore (ls2 := [_, _, _, _, _, _, _, _]) e_Mod_feed_76 (by decide) rfl ?_
          refine pw_aload_n e_Mod_feed_78 rfl ?_
          refine pw_getf e_Mod_feed_79 fl_Mod_74 (gO_get hnd (i := 0) rfl) rfl ?_
          refine pw_aload_n e_Mod_feed_82 rfl ?_
          refine pw_getf e_Mod_feed_83 fl_Mod_369 (gO_get hnd (i := 0) rfl) rfl ?_
          refine pw_eqst (congrArg (fun q => Value.int q :: [.ref (A 31)]) (show _ = nI (n) from ht)) ?_
          refine pw_iload e_Mod_feed_86 rfl ?_
          refine pw_iaddN e_Mod_feed_88 ?_
          refine pw_iload e_Mod_feed_89 rfl ?_
          refine pw_bipush (v := nI 24) e_Mod_feed_91 (by decide) ?_
          refine pw_bipush (v := nI 8) e_Mod_feed_93 (by decide) ?_
          refine pw_iload e_Mod_feed_95 rfl ?_
          refine pw_iconst (v := nI 4) e_Mod_feed_97 (by decide) ?_
          refine pw_iremN (by omega) (by omega) (by omega) e_Mod_feed_98 ?_
          refine pw_imulN e_Mod_feed_99 ?_
          refine pw_isubN (by omega) e_Mod_feed_100 ?_
          refine pw_ishr e_Mod_feed_101 ?_
          refine pw_sipush (v := nI 255) e_Mod_feed_102 (by decide) ?_
          refine pw_iand e_Mod_feed_105 ?_
          refine pw_iastG (i := 19) e_Mod_feed_106 hnd (mo_x _ _) rfl (by omega) (by decide) ?_
          refine pw_iincN (ls2 := [_, _, _, _, _, _, _, _]) e_Mod_feed_107 rfl (by decide) rfl ?_
          refine pw_goto (tgt := 23) e_Mod_feed_110 (by decide) ?_
          refine pw_fgt (ls' := [.ref (A 100), .int (a), .int (b), .int (c), .int (d), .int (e), .int (nI (k + 1)), .retAddr 0]) ⟨Or.inr rfl, Or.inr rfl, Or.inr rfl, Or.inr rfl, Or.inr rfl, Or.inr rfl, Or.inr rfl, Or.inl rfl, trivial⟩ ?_
          refine ih (u2 Z 31 (n + k) ((b >>> ((nI (24 - (8 * (k % 4)))) &&& 31)) &&& 255)) (k + 1) (wfM.uk (k := 31) hw (by decide)) (by exact ht) (by omega) (by omega) (by omega) ?_
          rw [f_Mod_feed_23, if_neg (Nat.not_le.mpr H1), if_pos H2, if_neg (Nat.not_le.mpr H3)] at hk
          exact hk
      · refine pw_iload_n e_Mod_feed_36 rfl ?_
        refine pw_goto (tgt := 76) e_Mod_feed_37 (by decide) ?_
        refine pw_istore (ls2 := [_, _, _, _, _, _, _, _]) e_Mod_feed_76 (by decide) rfl ?_
        refine pw_aload_n e_Mod_feed_78 rfl ?_
        refine pw_getf e_Mod_feed_79 fl_Mod_74 (gO_get hnd (i := 0) rfl) rfl ?_
        refine pw_aload_n e_Mod_feed_82 rfl ?_
        refine pw_getf e_Mod_feed_83 fl_Mod_369 (gO_get hnd (i := 0) rfl) rfl ?_
        refine pw_eqst (congrArg (fun q => Value.int q :: [.ref (A 31)]) (show _ = nI (n) from ht)) ?_
        refine pw_iload e_Mod_feed_86 rfl ?_
        refine pw_iaddN e_Mod_feed_88 ?_
        refine pw_iload e_Mod_feed_89 rfl ?_
        refine pw_bipush (v := nI 24) e_Mod_feed_91 (by decide) ?_
        refine pw_bipush (v := nI 8) e_Mod_feed_93 (by decide) ?_
        refine pw_iload e_Mod_feed_95 rfl ?_
        refine pw_iconst (v := nI 4) e_Mod_feed_97 (by decide) ?_
        refine pw_iremN (by omega) (by omega) (by omega) e_Mod_feed_98 ?_
        refine pw_imulN e_Mod_feed_99 ?_
        refine pw_isubN (by omega) e_Mod_feed_100 ?_
        refine pw_ishr e_Mod_feed_101 ?_
        refine pw_sipush (v := nI 255) e_Mod_feed_102 (by decide) ?_
        refine pw_iand e_Mod_feed_105 ?_
        refine pw_iastG (i := 19) e_Mod_feed_106 hnd (mo_x _ _) rfl (by omega) (by decide) ?_
        refine pw_iincN (ls2 := [_, _, _, _, _, _, _, _]) e_Mod_feed_107 rfl (by decide) rfl ?_
        refine pw_goto (tgt := 23) e_Mod_feed_110 (by decide) ?_
        refine pw_fgt (ls' := [.ref (A 100), .int (a), .int (b), .int (c), .int (d), .int (e), .int (nI (k + 1)), .retAddr 0]) ⟨Or.inr rfl, Or.inr rfl, Or.inr rfl, Or.inr rfl, Or.inr rfl, Or.inr rfl, Or.inr rfl, Or.inl rfl, trivial⟩ ?_
        refine ih (u2 Z 31 (n + k) ((a >>> ((nI (24 - (8 * (k % 4)))) &&& 31)) &&& 255)) (k + 1) (wfM.uk (k := 31) hw (by decide)) (by exact ht) (by omega) (by omega) (by omega) ?_
        rw [f_Mod_feed_23, if_neg (Nat.not_le.mpr H1), if_neg (Nat.not_le.mpr H2)] at hk
        exact hk
def f_Mod_feed (n : Nat) (a : Int32) (b : Int32) (c : Int32) (d : Int32) (e : Int32) (Z : Nat → Nat → Int32) : Int32 × (Nat → Nat → Int32) :=
  if (n + 20) ≤ 900 then f_Mod_feed_23 n a b c d e 21 (u2 Z 100 18 0) 0 else ((-1), u2 Z 100 18 0)
set_option maxRecDepth 4000 in
theorem w_Mod_feed_0 {g : GG} {Q : QT} {h : Hp} {kc ks : Nat} (hst : (gl g).stackTraces = false) {A : Nat → Nat} (hnd : (gK (moL g A)).Nodup) (n : Nat) (a : Int32) (b : Int32) (c : Int32) (d : Int32) (e : Int32) (hn : n ≤ 900)  (Z : Nat → Nat → Int32) (hw : wfM Z) (ht : Z 100 32 = nI n) (hk : Q (.inl (some (.int (f_Mod_feed n a b c d e Z).1))) (ov h (gO (moL g A) ((f_Mod_feed n a b c d e Z).2)))) : PW g M_Mod_feed 0 kc ks Q 0 [.ref (A 100), .int (a), .int (b), .int (c), .int (d), .int (e), .retAddr 0, .retAddr 0] [] (ov h (gO (moL g A) Z)) := by
  have hz0 := hw.blk.2
  have hz1 := hw.lnk.2
  have hz2 := hw.dvs.2
  refine pw_aload_n e_Mod_feed_0 rfl ?_
  refine pw_iconst (v := nI 0) e_Mod_feed_1 (by decide) ?_
  refine pw_putGi (i := 0) (ps := 18) (x := 0) e_Mod_feed_2 fp_Mod_159 hnd (mo_x _ _) rfl (Nat.le_of_ble_eq_true rfl) rfl rfl (fun _ _ => rfl) ?_
  refine pw_aload_n e_Mod_feed_5 rfl ?_
  refine pw_getf e_Mod_feed_6 fl_Mod_369 (gO_get hnd (i := 0) rfl) rfl ?_
  refine pw_eqst (congrArg (fun q => Value.int q :: []) (show _ = nI (n) from (u2_i (by decide) ht))) ?_
  refine pw_bipush (v := nI 20) e_Mod_feed_9 (by decide) ?_
  refine pw_iaddN e_Mod_feed_11 ?_
  refine pw_sipush (v := nI 900) e_Mod_feed_12 (by decide) ?_
  refine pw_icmp_leN (tgt := 20) e_Mod_feed_15 (by decide) (by omega) (by omega) (fun (H1 : (n + 20) ≤ 900) => ?_) (fun (H1 : 900 < (n + 20)) => ?_)
  · refine pw_iconst (v := nI 0) e_Mod_feed_20 (by decide) ?_
    refine pw_istore (ls2 := [_, _, _, _, _, _, _, _]) e_Mod_feed_21 (by decide) rfl ?_
    refine w_Mod_feed_23 hst hnd n a b c d e hn 21 (u2 Z 100 18 0) 0 (wfM.u100 (i := 18) hw (by decide)) (by exact ht) (by omega) (by omega) (by omega) ?_
    rw [f_Mod_feed, if_pos H1] at hk
    exact hk
  · refine pw_iconst (v := (-1)) e_Mod_feed_18 (by decide) ?_
    refine pw_iret e_Mod_feed_19 rfl rfl ?_
    rw [f_Mod_feed, if_neg (Nat.not_le.mpr H1)] at hk
    exact hk
theorem q_Mod_feed {g : GG} {h : Hp} (hst : (gl g).stackTraces = false) {A : Nat → Nat} (hnd : (gK (moL g A)).Nodup) (n : Nat) (a : Int32) (b : Int32) (c : Int32) (d : Int32) (e : Int32) (hn : n ≤ 900)  (Z : Nat → Nat → Int32) (hm : ∀ q ∈ gO (moL g A) Z, h q.1 = some q.2) (hw : wfM Z) (ht : Z 100 32 = nI n) : PM g M_Mod_feed 0 0 0 [.ref (A 100), .int (a), .int (b), .int (c), .int (d), .int (e)] h (RetV (some (.int (f_Mod_feed n a b c d e Z).1)) (ov h (gO (moL g A) ((f_Mod_feed n a b c d e Z).2)))) := by
  refine PM.of hst (by decide) rfl (fun v hv => ?_) (Nat.le_of_ble_eq_true rfl) ?_
  · simp only [List.mem_cons, List.not_mem_nil, or_false] at hv; rcases hv with rfl | rfl | rfl | rfl | rfl | rfl <;> rfl
  · have hq := w_Mod_feed_0 (g := g) (Q := RetV (some (.int (f_Mod_feed n a b c d e Z).1)) (ov h (gO (moL g A) ((f_Mod_feed n a b c d e Z).2)))) (h := h) (kc := 0) (ks := 0) hst hnd n a b c d e hn Z hw ht ?_
    · rw [ov_self hm] at hq; exact hq
    · exact ⟨rfl, rfl⟩

