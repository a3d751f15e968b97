/-! the reference: tokens of a text (written by wip/whole/c_mod9.py) -/
/-- where the reference reads: next ≤ size ≤ 900, value a number -/
def GoI (Z : Nat → Nat → Int32) : Prop := (Z 100 46 = nI (pN Z 100 46) ∧ pN Z 100 46 ≤ pN Z 100 48) ∧ (Z 100 48 = nI (pN Z 100 48) ∧ pN Z 100 48 ≤ 900) ∧ (Z 100 50 = nI (pN Z 100 50) ∧ pN Z 100 50 < 100000)
theorem GoI.of {Z Q : Nat → Nat → Int32} (h : GoI Z) (e0 : Q 100 46 = Z 100 46) (e1 : Q 100 48 = Z 100 48) (e2 : Q 100 50 = Z 100 50) : GoI Q := by
  unfold GoI pN at *; rw [e0, e1, e2]; exact h
theorem GoI.uk {Z : Nat → Nat → Int32} {k i : Nat} {v : Int32} (h : GoI Z) (hk : 100 ≠ k) : GoI (u2 Z k i v) := h.of (u2_o hk rfl) (u2_o hk rfl) (u2_o hk rfl)
theorem GoI.u100 {Z : Nat → Nat → Int32} {i : Nat} {v : Int32} (h : GoI Z) (hi : 46 ≠ i ∧ 48 ≠ i ∧ 50 ≠ i) : GoI (u2 Z 100 i v) := h.of (u2_i hi.1 rfl) (u2_i hi.2.1 rfl) (u2_i hi.2.2 rfl)
theorem GoI.nx {Z : Nat → Nat → Int32} {n : Nat} (h : GoI Z) (hn : n ≤ pN Z 100 48) : GoI (u2 Z 100 46 (nI n)) := by
  have h1 := h.2.1.2
  have e46 : (u2 Z 100 46 (nI n)) 100 46 = nI n := u2_s
  have e48 : (u2 Z 100 46 (nI n)) 100 48 = Z 100 48 := u2_i (by decide) rfl
  have e50 : (u2 Z 100 46 (nI n)) 100 50 = Z 100 50 := u2_i (by decide) rfl
  unfold GoI
  rw [pN_mk (by omega) e46, pN_o e48, pN_o e50, e46, e48, e50]
  exact ⟨⟨rfl, hn⟩, h.2.1, h.2.2⟩
theorem GoI.vl {Z : Nat → Nat → Int32} {x : Int32} (h : GoI Z) (hv : ∃ v, x = nI v ∧ v < 100000) : GoI (u2 Z 100 50 x) := by
  obtain ⟨v, rfl, hv⟩ := hv
  have e46 : (u2 Z 100 50 (nI v)) 100 46 = Z 100 46 := u2_i (by decide) rfl
  have e48 : (u2 Z 100 50 (nI v)) 100 48 = Z 100 48 := u2_i (by decide) rfl
  have e50 : (u2 Z 100 50 (nI v)) 100 50 = nI v := u2_s
  unfold GoI
  rw [pN_mk (by omega) e50, pN_o e46, pN_o e48, e46, e48, e50]
  exact ⟨h.1, h.2.1, rfl, hv⟩
def f_Mod_isLetter (x : Int32) : Int32 :=
  if x < 97 then 0 else if 122 < x then 0 else 1
set_option maxRecDepth 4000 in
theorem w_Mod_isLetter_0 {g : GG} {Q : QT} {h : Hp} {kc ks : Nat} (hst : (gl g).stackTraces = false) (x : Int32)  (hk : Q (.inl (some (.int (f_Mod_isLetter x)))) h) : PW g M_Mod_isLetter 0 kc ks Q 0 [.int (x)] [] h := by
  refine pw_iload_n e_Mod_isLetter_0 rfl ?_
  refine pw_bipush (v := nI 97) e_Mod_isLetter_1 (by decide) ?_
  refine pw_icmp_lt (tgt := 16) e_Mod_isLetter_3 (by decide) (fun (H1 : x < 97) => ?_) (fun (H1 : ¬ x < 97) => ?_)
  · refine pw_iconst (v := nI 0) e_Mod_isLetter_16 (by decide) ?_
    refine pw_iret e_Mod_isLetter_17 rfl (by decide) ?_
    rw [f_Mod_isLetter, if_pos H1] at hk
    exact hk
  · refine pw_iload_n e_Mod_isLetter_6 rfl ?_
    refine pw_bipush (v := nI 122) e_Mod_isLetter_7 (by decide) ?_
    refine pw_icmp_gt (tgt := 16) e_Mod_isLetter_9 (by decide) (fun (H2 : 122 < x) => ?_) (fun (H2 : ¬ 122 < x) => ?_)
    · refine pw_iconst (v := nI 0) e_Mod_isLetter_16 (by decide) ?_
      refine pw_iret e_Mod_isLetter_17 rfl (by decide) ?_
      rw [f_Mod_isLetter, if_neg H1, if_pos H2] at hk
      exact hk
    · refine pw_iconst (v := nI 1) e_Mod_isLetter_12 (by decide) ?_
      refine pw_goto (tgt := 17) e_Mod_isLetter_13 (by decide) ?_
      refine pw_iret e_Mod_isLetter_17 rfl (by decide) ?_
      rw [f_Mod_isLetter, if_neg H1, if_neg H2] at hk
      exact hk
theorem q_Mod_isLetter {g : GG} {h : Hp} (hst : (gl g).stackTraces = false) (x : Int32)  : PM g M_Mod_isLetter 0 0 0 [.int (x)] h (RetV (some (.int (f_Mod_isLetter x))) h) := by
  refine PM.of hst (by decide) rfl (fun v hv => ?_) (Nat.le_of_ble_eq_true rfl) ?_
  · simp only [List.mem_cons, List.not_mem_nil, or_false] at hv; rcases hv with rfl <;> rfl
  · have hq := w_Mod_isLetter_0 (g := g) (Q := RetV (some (.int (f_Mod_isLetter x))) h) (h := h) (kc := 0) (ks := 0) hst x ?_
    · exact hq
    · exact ⟨rfl, rfl⟩

def f_Mod_byteAt (k : Nat) (Z : Nat → Nat → Int32) : Int32 :=
  if (pN Z 100 48) ≤ k then 0 else (Z 31) k
set_option maxRecDepth 4000 in
theorem w_Mod_byteAt_0 {g : GG} {Q : QT} {h : Hp} {kc ks : Nat} (hst : (gl g).stackTraces = false) {A : Nat → Nat} (hnd : (gK (moL g A)).Nodup) (k : Nat) (hk9 : k < 2000)  (Z : Nat → Nat → Int32) (hw : GoI Z) (hk : Q (.inl (some (.int (f_Mod_byteAt k Z)))) (ov h (gO (moL g A) Z))) : PW g M_Mod_byteAt 0 kc ks Q 0 [.ref (A 100), .int (nI (k))] [] (ov h (gO (moL g A) Z)) := by
  have hz0 := hw.1.2
  have hz1 := hw.2.1.2
  refine pw_iload_n e_Mod_byteAt_0 rfl ?_
  refine pw_aload_n e_Mod_byteAt_1 rfl ?_
  refine pw_getf e_Mod_byteAt_2 fl_Mod_273 (gO_get hnd (i := 0) rfl) rfl ?_
  refine pw_eqst (congrArg (fun q => Value.int q :: [.int (nI (k))]) (show _ = nI (pN Z 100 48) from hw.2.1.1)) ?_
  refine pw_icmp_geN (tgt := 17) e_Mod_byteAt_5 (by decide) (by omega) (by omega) (fun (H1 : (pN Z 100 48) ≤ k) => ?_) (fun (H1 : k < (pN Z 100 48)) => ?_)
  · refine pw_iconst (v := nI 0) e_Mod_byteAt_17 (by decide) ?_
    refine pw_iret e_Mod_byteAt_18 rfl rfl ?_
    rw [f_Mod_byteAt, if_pos H1] at hk
    exact hk
  · refine pw_aload_n e_Mod_byteAt_8 rfl ?_
    refine pw_getf e_Mod_byteAt_9 fl_Mod_74 (gO_get hnd (i := 0) rfl) rfl ?_
    refine pw_iload_n e_Mod_byteAt_12 rfl ?_
    refine pw_ialdN e_Mod_byteAt_13 (gO_get hnd (i := 19) rfl) (by omega) (by decide) ?_
    refine pw_goto (tgt := 18) e_Mod_byteAt_14 (by decide) ?_
    refine pw_iret e_Mod_byteAt_18 rfl rfl ?_
    rw [f_Mod_byteAt, if_neg (Nat.not_le.mpr H1)] at hk
    exact hk
theorem q_Mod_byteAt {g : GG} {h : Hp} (hst : (gl g).stackTraces = false) {A : Nat → Nat} (hnd : (gK (moL g A)).Nodup) (k : Nat) (hk9 : k < 2000)  (Z : Nat → Nat → Int32) (hm : ∀ q ∈ gO (moL g A) Z, h q.1 = some q.2) (hw : GoI Z) : PM g M_Mod_byteAt 0 0 0 [.ref (A 100), .int (nI (k))] h (RetV (some (.int (f_Mod_byteAt k Z))) h) := by
  refine PM.of hst (by decide) rfl (fun v hv => ?_) (Nat.le_of_ble_eq_true rfl) ?_
  · simp only [List.mem_cons, List.not_mem_nil, or_false] at hv; rcases hv with rfl | rfl <;> rfl
  · have hq := w_Mod_byteAt_0 (g := g) (Q := RetV (some (.int (f_Mod_byteAt k Z))) h) (h := h) (kc := 0) (ks := 0) hst hnd k hk9 Z hw ?_
    · rw [ov_self hm] at hq; exact hq
    · exact ⟨rfl, ov_self hm⟩

noncomputable def f_Mod_wordFrom_11 (a : Nat) (z : Nat) : Nat → (Nat → Nat → Int32) → (Nat) → (Nat) → (Int32) → (Nat) → Int32
  | 0, _, _, _, _, _ => 0
  | t + 1, Z, w, k, so, i => if 103 ≤ i then (-1) else if (knB.getD i 0) = 32 then if so = 0 then f_Mod_wordFrom_11 a z t Z (w + 1) a 1 (i + 1) else if k = z then nI (w) else f_Mod_wordFrom_11 a z t Z (w + 1) a 1 (i + 1) else if so = 0 then f_Mod_wordFrom_11 a z t Z w (k + 1) 0 (i + 1) else if z ≤ k then f_Mod_wordFrom_11 a z t Z w (k + 1) 0 (i + 1) else if (f_Mod_byteAt k Z) = (knB.getD i 0) then f_Mod_wordFrom_11 a z t Z w (k + 1) 1 (i + 1) else f_Mod_wordFrom_11 a z t Z w (k + 1) 0 (i + 1)
set_option maxRecDepth 4000 in
theorem w_Mod_wordFrom_11 {g : GG} {Q : QT} {h : Hp} {kc ks : Nat} (hst : (gl g).stackTraces = false) {A : Nat → Nat} (hnd : (gK (moL g A)).Nodup) (a : Nat) (z : Nat) (ha : a ≤ 900) (hz : z ≤ 900)  (t : Nat) : ∀ (Z : Nat → Nat → Int32) (w : Nat) (k : Nat) (so : Int32) (i : Nat) (hw : GoI Z) (hi9 : i ≤ 103) (hk9 : k ≤ a + i) (hlt : 103 - i < t) (hk : Q (.inl (some (.int (f_Mod_wordFrom_11 a z t Z w k so i)))) (ov h (gO (moL g A) Z))), PW g M_Mod_wordFrom 1 kc ks Q 11 [.ref (A 100), .int (nI (a)), .int (nI (z)), .int (nI (w)), .int (nI (k)), .int (so), .int (nI (i))] [] (ov h (gO (moL g A) Z)) := by
  induction t with
  | zero => intro Z w k so i hw hi9 hk9 hlt _; exact absurd hlt (Nat.not_lt_zero _)
  | succ t ih =>
    intro Z w k so i hw hi9 hk9 hlt hk
    have hz0 := hw.1.2
    have hz1 := hw.2.1.2
    refine pw_iload e_Mod_wordFrom_11 rfl ?_
    refine pw_gets e_Mod_wordFrom_13 fs_276 (fun _ q => q.2.2.2.2.2.2.2.1) ?_
    refine pw_tlen (v := nI 103) e_Mod_wordFrom_16 (fun _ q => q.2.2.2.2.2.2.2.2) rfl ?_
    refine pw_icmp_geN (tgt := 98) e_Mod_wordFrom_17 (by decide) (by omega) (by omega) (fun (H1 : 103 ≤ i) => ?_) (fun (H1 : i < 103) => ?_)
    · refine pw_iconst (v := (-1)) e_Mod_wordFrom_98 (by decide) ?_
      refine pw_iret e_Mod_wordFrom_99 rfl rfl ?_
      rw [f_Mod_wordFrom_11, if_pos H1] at hk
      exact hk
    · refine pw_gets e_Mod_wordFrom_20 fs_276 (fun _ q => q.2.2.2.2.2.2.2.1) ?_
      refine pw_iload e_Mod_wordFrom_23 rfl ?_
      refine pw_tb e_Mod_wordFrom_25 (fun _ q => q.2.2.2.2.2.2.2.2) (by omega) (by decide) rfl ?_
      refine pw_bipush (v := nI 32) e_Mod_wordFrom_26 (by decide) ?_
      refine pw_icmp_ne (tgt := 56) e_Mod_wordFrom_28 (by decide) (fun (H2 : ¬ (knB.getD i 0) = 32) => ?_) (fun (H2 : (knB.getD i 0) = 32) => ?_)
      · refine pw_iload e_Mod_wordFrom_56 rfl ?_
        refine pw_if_eq (tgt := 86) e_Mod_wordFrom_58 (by decide) (fun (H3 : so = 0) => ?_) (fun (H3 : ¬ so = 0) => ?_)
        · refine pw_iconst (v := nI 0) e_Mod_wordFrom_86 (by decide) ?_
          refine pw_istore (ls2 := [_, _, _, _, _, _, _]) e_Mod_wordFrom_87 (by decide) rfl ?_
          refine pw_iincN (ls2 := [_, _, _, _, _, _, _]) e_Mod_wordFrom_89 rfl (by decide) rfl ?_
          refine pw_iincN (ls2 := [_, _, _, _, _, _, _]) e_Mod_wordFrom_92 rfl (by decide) rfl ?_
          refine pw_goto (tgt := 11) e_Mod_wordFrom_95 (by decide) ?_
          refine ih Z w (k + 1) 0 (i + 1) hw (by omega) (by omega) (by omega) ?_
          rw [f_Mod_wordFrom_11, if_neg (Nat.not_le.mpr H1), if_neg H2, if_pos H3] at hk
          exact hk
        · refine pw_iload e_Mod_wordFrom_61 rfl ?_
          refine pw_iload_n e_Mod_wordFrom_63 rfl ?_
          refine pw_icmp_geN (tgt := 86) e_Mod_wordFrom_64 (by decide) (by omega) (by omega) (fun (H4 : z ≤ k) => ?_) (fun (H4 : k < z) => ?_)
          · refine pw_iconst (v := nI 0) e_Mod_wordFrom_86 (by decide) ?_
            refine pw_istore (ls2 := [_, _, _, _, _, _, _]) e_Mod_wordFrom_87 (by decide) rfl ?_
            refine pw_iincN (ls2 := [_, _, _, _, _, _, _]) e_Mod_wordFrom_89 rfl (by decide) rfl ?_
            refine pw_iincN (ls2 := [_, _, _, _, _, _, _]) e_Mod_wordFrom_92 rfl (by decide) rfl ?_
            refine pw_goto (tgt := 11) e_Mod_wordFrom_95 (by decide) ?_
            refine ih Z w (k + 1) 0 (i + 1) hw (by omega) (by omega) (by omega) ?_
            rw [f_Mod_wordFrom_11, if_neg (Nat.not_le.mpr H1), if_neg H2, if_neg H3, if_pos H4] at hk
            exact hk
          · refine pw_aload_n e_Mod_wordFrom_67 rfl ?_
            refine pw_iload e_Mod_wordFrom_68 rfl ?_
            refine pw_detV (As := [.int (nI (k))]) e_Mod_wordFrom_70 li_Mod_280 rfl (gO_get hnd (i := 0) rfl) (q_Mod_byteAt hst hnd k (by omega) Z (gO_in hnd (fun _ z => z)) hw) rfl (by decide) (Nat.le_of_ble_eq_true rfl) rfl ?_
            refine pw_gets e_Mod_wordFrom_73 fs_276 (fun _ q => q.2.2.2.2.2.2.2.1) ?_
            refine pw_iload e_Mod_wordFrom_76 rfl ?_
            refine pw_tb e_Mod_wordFrom_78 (fun _ q => q.2.2.2.2.2.2.2.2) (by omega) (by decide) rfl ?_
            refine pw_icmp_ne (tgt := 86) e_Mod_wordFrom_79 (by decide) (fun (H5 : ¬ (f_Mod_byteAt k Z) = (knB.getD i 0)) => ?_) (fun (H5 : (f_Mod_byteAt k Z) = (knB.getD i 0)) => ?_)
            · refine pw_iconst (v := nI 0) e_Mod_wordFrom_86 (by decide) ?_
              refine pw_istore (ls2 := [_, _, _, _, _, _, _]) e_Mod_wordFrom_87 (by decide) rfl ?_
              refine pw_iincN (ls2 := [_, _, _, _, _, _, _]) e_Mod_wordFrom_89 rfl (by decide) rfl ?_
              refine pw_iincN (ls2 := [_, _, _, _, _, _, _]) e_Mod_wordFrom_92 rfl (by decide) rfl ?_
              refine pw_goto (tgt := 11) e_Mod_wordFrom_95 (by decide) ?_
              refine ih Z w (k + 1) 0 (i + 1) hw (by omega) (by omega) (by omega) ?_
              rw [f_Mod_wordFrom_11, if_neg (Nat.not_le.mpr H1), if_neg H2, if_neg H3, if_neg (Nat.not_le.mpr H4), if_neg H5] at hk
              exact hk
            · refine pw_iconst (v := nI 1) e_Mod_wordFrom_82 (by decide) ?_
              refine pw_goto (tgt := 87) e_Mod_wordFrom_83 (by decide) ?_
              refine pw_istore (ls2 := [_, _, _, _, _, _, _]) e_Mod_wordFrom_87 (by decide) rfl ?_
              refine pw_iincN (ls2 := [_, _, _, _, _, _, _]) e_Mod_wordFrom_89 rfl (by decide) rfl ?_
              refine pw_iincN (ls2 := [_, _, _, _, _, _, _]) e_Mod_wordFrom_92 rfl (by decide) rfl ?_
              refine pw_goto (tgt := 11) e_Mod_wordFrom_95 (by decide) ?_
              refine ih Z w (k + 1) 1 (i + 1) hw (by omega) (by omega) (by omega) ?_
              rw [f_Mod_wordFrom_11, if_neg (Nat.not_le.mpr H1), if_neg H2, if_neg H3, if_neg (Nat.not_le.mpr H4), if_pos H5] at hk
              exact hk
      · refine pw_iload e_Mod_wordFrom_31 rfl ?_
        refine pw_if_eq (tgt := 44) e_Mod_wordFrom_33 (by decide) (fun (H6 : so = 0) => ?_) (fun (H6 : ¬ so = 0) => ?_)
        · refine pw_iincN (ls2 := [_, _, _, _, _, _, _]) e_Mod_wordFrom_44 rfl (by decide) rfl ?_
          refine pw_iload_n e_Mod_wordFrom_47 rfl ?_
          refine pw_istore (ls2 := [_, _, _, _, _, _, _]) e_Mod_wordFrom_48 (by decide) rfl ?_
          refine pw_iconst (v := nI 1) e_Mod_wordFrom_50 (by decide) ?_
          refine pw_istore (ls2 := [_, _, _, _, _, _, _]) e_Mod_wordFrom_51 (by decide) rfl ?_
          refine pw_goto (tgt := 92) e_Mod_wordFrom_53 (by decide) ?_
          refine pw_iincN (ls2 := [_, _, _, _, _, _, _]) e_Mod_wordFrom_92 rfl (by decide) rfl ?_
          refine pw_goto (tgt := 11) e_Mod_wordFrom_95 (by decide) ?_
          refine ih Z (w + 1) a 1 (i + 1) hw (by omega) (by omega) (by omega) ?_
          rw [f_Mod_wordFrom_11, if_neg (Nat.not_le.mpr H1), if_pos H2, if_pos H6] at hk
          exact hk
        · refine pw_iload e_Mod_wordFrom_36 rfl ?_
          refine pw_iload_n e_Mod_wordFrom_38 rfl ?_
          refine pw_icmp_neN (tgt := 44) e_Mod_wordFrom_39 (by decide) (by omega) (by omega) (fun (H7 : ¬ k = z) => ?_) (fun (H7 : k = z) => ?_)
          · refine pw_iincN (ls2 := [_, _, _, _, _, _, _]) e_Mod_wordFrom_44 rfl (by decide) rfl ?_
            refine pw_iload_n e_Mod_wordFrom_47 rfl ?_
            refine pw_istore (ls2 := [_, _, _, _, _, _, _]) e_Mod_wordFrom_48 (by decide) rfl ?_
            refine pw_iconst (v := nI 1) e_Mod_wordFrom_50 (by decide) ?_
            refine pw_istore (ls2 := [_, _, _, _, _, _, _]) e_Mod_wordFrom_51 (by decide) rfl ?_
            refine pw_goto (tgt := 92) e_Mod_wordFrom_53 (by decide) ?_
            refine pw_iincN (ls2 := [_, _, _, _, _, _, _]) e_Mod_wordFrom_92 rfl (by decide) rfl ?_
            refine pw_goto (tgt := 11) e_Mod_wordFrom_95 (by decide) ?_
            refine ih Z (w + 1) a 1 (i + 1) hw (by omega) (by omega) (by omega) ?_
            rw [f_Mod_wordFrom_11, if_neg (Nat.not_le.mpr H1), if_pos H2, if_neg H6, if_neg H7] at hk
            exact hk
          · refine pw_iload_n e_Mod_wordFrom_42 rfl ?_
            refine pw_iret e_Mod_wordFrom_43 rfl rfl ?_
            rw [f_Mod_wordFrom_11, if_neg (Nat.not_le.mpr H1), if_pos H2, if_neg H6, if_pos H7] at hk
            exact hk
noncomputable def f_Mod_wordFrom (a : Nat) (z : Nat) (Z : Nat → Nat → Int32) : Int32 :=
  f_Mod_wordFrom_11 a z (fu 104) Z 0 a 1 0
set_option maxRecDepth 4000 in
theorem w_Mod_wordFrom_0 {g : GG} {Q : QT} {h : Hp} {kc ks : Nat} (hst : (gl g).stackTraces = false) {A : Nat → Nat} (hnd : (gK (moL g A)).Nodup) (a : Nat) (z : Nat) (ha : a ≤ 900) (hz : z ≤ 900)  (Z : Nat → Nat → Int32) (hw : GoI Z) (hk : Q (.inl (some (.int (f_Mod_wordFrom a z Z)))) (ov h (gO (moL g A) Z))) : PW g M_Mod_wordFrom 1 kc ks Q 0 [.ref (A 100), .int (nI (a)), .int (nI (z)), .retAddr 0, .retAddr 0, .retAddr 0, .retAddr 0] [] (ov h (gO (moL g A) Z)) := by
  have hz0 := hw.1.2
  have hz1 := hw.2.1.2
  refine pw_iconst (v := nI 0) e_Mod_wordFrom_0 (by decide) ?_
  refine pw_istore_n (ls2 := [_, _, _, _, _, _, _]) e_Mod_wordFrom_1 (by decide) rfl ?_
  refine pw_iload_n e_Mod_wordFrom_2 rfl ?_
  refine pw_istore (ls2 := [_, _, _, _, _, _, _]) e_Mod_wordFrom_3 (by decide) rfl ?_
  refine pw_iconst (v := nI 1) e_Mod_wordFrom_5 (by decide) ?_
  refine pw_istore (ls2 := [_, _, _, _, _, _, _]) e_Mod_wordFrom_6 (by decide) rfl ?_
  refine pw_iconst (v := nI 0) e_Mod_wordFrom_8 (by decide) ?_
  refine pw_istore (ls2 := [_, _, _, _, _, _, _]) e_Mod_wordFrom_9 (by decide) rfl ?_
  refine w_Mod_wordFrom_11 hst hnd a z ha hz (fu 104) Z 0 a 1 0 hw (by omega) (by omega) (by rw [fu_eq]; omega) ?_
  rw [f_Mod_wordFrom] at hk
  exact hk
theorem q_Mod_wordFrom {g : GG} {h : Hp} (hst : (gl g).stackTraces = false) {A : Nat → Nat} (hnd : (gK (moL g A)).Nodup) (a : Nat) (z : Nat) (ha : a ≤ 900) (hz : z ≤ 900)  (Z : Nat → Nat → Int32) (hm : ∀ q ∈ gO (moL g A) Z, h q.1 = some q.2) (hw : GoI Z) : PM g M_Mod_wordFrom 1 0 0 [.ref (A 100), .int (nI (a)), .int (nI (z))] h (RetV (some (.int (f_Mod_wordFrom a z Z))) h) := by
  refine PM.of hst (by decide) rfl (fun v hv => ?_) (Nat.le_of_ble_eq_true rfl) ?_
  · simp only [List.mem_cons, List.not_mem_nil, or_false] at hv; rcases hv with rfl | rfl | rfl <;> rfl
  · have hq := w_Mod_wordFrom_0 (g := g) (Q := RetV (some (.int (f_Mod_wordFrom a z Z))) h) (h := h) (kc := 0) (ks := 0) hst hnd a z ha hz Z hw ?_
    · rw [ov_self hm] at hq; exact hq
    · exact ⟨rfl, ov_self hm⟩

theorem ba_0 {n : Nat} {Z : Nat → Nat → Int32} (h : pN Z 100 48 ≤ n) : f_Mod_byteAt n Z = 0 := by rw [f_Mod_byteAt, if_pos h]
theorem lt_let {Z : Nat → Nat → Int32} (hw : GoI Z) (H : ¬ f_Mod_isLetter (f_Mod_byteAt (pN Z 100 46) Z) = 0) : pN Z 100 46 < pN Z 100 48 := by
  apply Classical.byContradiction
  intro hn
  apply H
  rw [ba_0 (by omega)]
  decide
theorem lt_dig {Z : Nat → Nat → Int32} (hw : GoI Z) (H : ¬ f_Mod_byteAt (pN Z 100 46) Z < 48) : pN Z 100 46 < pN Z 100 48 := by
  apply Classical.byContradiction
  intro hn
  apply H
  rw [ba_0 (by omega)]
  decide
def muG (Z : Nat → Nat → Int32) : Nat := pN Z 100 48 - pN Z 100 46
theorem GoI.mu0 {Z : Nat → Nat → Int32} (h : GoI Z) : muG Z < 901 := by have := h.2.1.2; unfold muG; omega
theorem mu_nx {Z Q : Nat → Nat → Int32} {t : Nat} (e0 : Q 100 46 = nI (pN Z 100 46 + 1)) (e1 : Q 100 48 = Z 100 48) (h : GoI Z) (hlt : pN Z 100 46 < pN Z 100 48) (ht : muG Z < t + 1) : muG Q < t := by
  have := h.2.1.2
  unfold muG at *
  rw [pN_mk (by omega) e0, pN_o e1]; omega
/-- digits read so far -/
def VI (Z : Nat → Nat → Int32) : Prop := (Z 100 47 = nI (pN Z 100 47) ∧ pN Z 100 47 ≤ pN Z 100 46) ∧ (pN Z 100 46 - pN Z 100 47 ≤ 4 → pN Z 100 50 < 10 ^ (pN Z 100 46 - pN Z 100 47)) ∧ (4 < pN Z 100 46 - pN Z 100 47 → pN Z 100 50 = 99999)
theorem sub_nI {a b : Nat} (h : b ≤ a) : nI a - nI b = nI (a - b) := pk_sub h
theorem VI.lt4 {Z : Nat → Nat → Int32} (h : GoI Z) (hV : VI Z) (H : ¬ 4 ≤ nI (pN Z 100 46) - Z 100 47) : pN Z 100 46 - pN Z 100 47 < 4 := by
  have h1 := h.1.2
  have h2 := h.2.1.2
  rw [hV.1.1, sub_nI hV.1.2, i_le, nI_toInt (by omega), show (4 : Int32).toInt = 4 by decide] at H
  omega
theorem p10_3 {j v : Nat} (hj : j < 4) (hv : v < 10 ^ j) : v < 1000 := by
  rcases (by omega : j = 0 ∨ j = 1 ∨ j = 2 ∨ j = 3) with rfl | rfl | rfl | rfl <;> omega
theorem dg_of {x : Int32} (h1 : ¬ x < 48) (h2 : ¬ 57 < x) : x = nI x.toNatClampNeg ∧ 48 ≤ x.toNatClampNeg ∧ x.toNatClampNeg ≤ 57 := by
  rw [i_lt, show (48 : Int32).toInt = 48 by decide] at h1
  rw [i_lt, show (57 : Int32).toInt = 57 by decide] at h2
  have e : x.toNatClampNeg = x.toInt.toNat := rfl
  have e2 : x = nI x.toInt.toNat := by
    apply Int32.toInt_inj.mp
    rw [nI_toInt (by omega)]; omega
  rw [e]
  exact ⟨e2, by omega, by omega⟩
theorem val_E {v d : Nat} (h1 : 48 ≤ d) : (10 : Int32) * nI v + nI d - 48 = nI (10 * v + (d - 48)) := by
  rw [show (10 : Int32) = nI 10 from rfl, show (48 : Int32) = nI 48 from rfl, pk_mul, nI_add, sub_nI (by omega)]
  congr 1; omega
theorem val_A {Z : Nat → Nat → Int32} (h : GoI Z) (hV : VI Z) (H1 : ¬ f_Mod_byteAt (pN Z 100 46) Z < 48) (H2 : ¬ 57 < f_Mod_byteAt (pN Z 100 46) Z) (H3 : ¬ 4 ≤ nI (pN Z 100 46) - Z 100 47) : ∃ v, (10 : Int32) * Z 100 50 + f_Mod_byteAt (pN Z 100 46) Z - 48 = nI v ∧ v < 100000 := by
  have hj := hV.lt4 h H3
  have hv := p10_3 hj (hV.2.1 (by omega))
  obtain ⟨e, d1, d2⟩ := dg_of H1 H2
  rw [e, h.2.2.1, val_E d1]
  exact ⟨_, rfl, by omega⟩
