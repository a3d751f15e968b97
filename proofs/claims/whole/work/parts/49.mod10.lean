/-! the reference: the next token, numbers, words (written by wip/whole/c_mod10.py) -/
theorem pl_0 {Q : Nat → Nat → Int32} {n : Nat} (e : Q 100 47 = nI n) (hn : n ≤ 900) : Q 100 47 = nI (pN Q 100 47) ∧ pN Q 100 47 ≤ 900 := by
  rw [pN_mk (by omega) e]; exact ⟨e, hn⟩
theorem vi_0 {Q : Nat → Nat → Int32} {n : Nat} (hn : n ≤ 900) (e47 : Q 100 47 = nI n) (e46 : Q 100 46 = nI n) (e50 : Q 100 50 = 0) : VI Q := by
  have p47 := pN_mk (Z := Q) (by omega) e47
  have p46 := pN_mk (Z := Q) (by omega) e46
  have p50 : pN Q 100 50 = 0 := pN_mk (n := 0) (by decide) e50
  unfold VI
  rw [p47, p46, p50, Nat.sub_self]
  exact ⟨⟨e47, Nat.le_refl _⟩, fun _ => by decide, fun h => by omega⟩
theorem vi_A {Z : Nat → Nat → Int32} (h : GoI Z) (hV : VI Z) (H1 : ¬ f_Mod_byteAt (pN Z 100 46) Z < 48) (H2 : ¬ 57 < f_Mod_byteAt (pN Z 100 46) Z) (H3 : ¬ 4 ≤ nI (pN Z 100 46) - Z 100 47) : VI (u2 (u2 Z 100 50 ((10 : Int32) * Z 100 50 + f_Mod_byteAt (pN Z 100 46) Z - 48)) 100 46 (nI (pN Z 100 46 + 1))) := by
  have hj := hV.lt4 h H3
  have hv := hV.2.1 (by omega)
  have hv3 := p10_3 hj hv
  obtain ⟨e, d1, d2⟩ := dg_of H1 H2
  have h1 := h.1.2
  have h2 := h.2.1.2
  rw [e, h.2.2.1, val_E d1]
  have e47 : (u2 (u2 Z 100 50 (nI (10 * pN Z 100 50 + ((f_Mod_byteAt (pN Z 100 46) Z).toNatClampNeg - 48)))) 100 46 (nI (pN Z 100 46 + 1))) 100 47 = Z 100 47 := u2_i (by decide) (u2_i (by decide) rfl)
  have e46 : (u2 (u2 Z 100 50 (nI (10 * pN Z 100 50 + ((f_Mod_byteAt (pN Z 100 46) Z).toNatClampNeg - 48)))) 100 46 (nI (pN Z 100 46 + 1))) 100 46 = nI (pN Z 100 46 + 1) := u2_s
  have e50 : (u2 (u2 Z 100 50 (nI (10 * pN Z 100 50 + ((f_Mod_byteAt (pN Z 100 46) Z).toNatClampNeg - 48)))) 100 46 (nI (pN Z 100 46 + 1))) 100 50 = nI (10 * pN Z 100 50 + ((f_Mod_byteAt (pN Z 100 46) Z).toNatClampNeg - 48)) := u2_i (by decide) u2_s
  unfold VI
  rw [pN_o e47, pN_mk (by omega) e46, pN_mk (by omega) e50, e47]
  refine ⟨⟨hV.1.1, by have := hV.1.2; omega⟩, fun _ => ?_, fun h => by omega⟩
  rw [show pN Z 100 46 + 1 - pN Z 100 47 = (pN Z 100 46 - pN Z 100 47) + 1 by have := hV.1.2; omega, Nat.pow_succ]
  omega
theorem vi_B {Z : Nat → Nat → Int32} (h : GoI Z) (hV : VI Z) (H3 : 4 ≤ nI (pN Z 100 46) - Z 100 47) : VI (u2 (u2 Z 100 50 99999) 100 46 (nI (pN Z 100 46 + 1))) := by
  have h1 := h.1.2
  have h2 := h.2.1.2
  have hj : 4 ≤ pN Z 100 46 - pN Z 100 47 := by
    rw [hV.1.1, sub_nI hV.1.2, i_le, nI_toInt (by omega), show (4 : Int32).toInt = 4 by decide] at H3
    omega
  have e47 : (u2 (u2 Z 100 50 99999) 100 46 (nI (pN Z 100 46 + 1))) 100 47 = Z 100 47 := u2_i (by decide) (u2_i (by decide) rfl)
  have e46 : (u2 (u2 Z 100 50 99999) 100 46 (nI (pN Z 100 46 + 1))) 100 46 = nI (pN Z 100 46 + 1) := u2_s
  have e50 : (u2 (u2 Z 100 50 99999) 100 46 (nI (pN Z 100 46 + 1))) 100 50 = nI 99999 := u2_i (by decide) u2_s
  unfold VI
  rw [pN_o e47, pN_mk (by omega) e46, pN_mk (by omega) e50, e47]
  exact ⟨⟨hV.1.1, by have := hV.1.2; omega⟩, fun h => by have := hV.1.2; omega, fun _ => rfl⟩
noncomputable def f_Mod_go_166  : Nat → (Nat → Nat → Int32) → (Nat → Nat → Int32)
  | 0, Z => Z
  | t + 1, Z => if (f_Mod_byteAt (pN Z 100 46) Z) < 48 then u2 Z 100 49 2 else if 57 < (f_Mod_byteAt (pN Z 100 46) Z) then u2 Z 100 49 2 else if 4 ≤ ((nI (pN Z 100 46)) - (Z 100 47)) then f_Mod_go_166  t (u2 (u2 Z 100 50 99999) 100 46 (nI ((pN Z 100 46) + 1))) else f_Mod_go_166  t (u2 (u2 Z 100 50 (((10 * (Z 100 50)) + (f_Mod_byteAt (pN Z 100 46) Z)) - 48)) 100 46 (nI ((pN Z 100 46) + 1)))
set_option maxRecDepth 4000 in
theorem w_Mod_go_166 {g : GG} {Q : QT} {h : Hp} {kc ks : Nat} (hst : (gl g).stackTraces = false) {A : Nat → Nat} (hnd : (gK (moL g A)).Nodup)  (t : Nat) : ∀ (Z : Nat → Nat → Int32) (hw : GoI Z) (hV : VI Z) (hlt : muG Z < t) (hk : Q (.inl none) (ov h (gO (moL g A) (f_Mod_go_166  t Z)))), PW g M_Mod_go 2 kc ks Q 166 [.ref (A 100), .retAddr 0] [] (ov h (gO (moL g A) Z)) := by
  induction t with
  | zero => intro Z hw hV hlt _; exact absurd hlt (Nat.not_lt_zero _)
  | succ t ih =>
    intro Z hw hV hlt hk
    have hz0 := hw.1.2
    have hz1 := hw.2.1.2
    refine pw_aload_n e_Mod_go_166 rfl ?_
    refine pw_aload_n e_Mod_go_167 rfl ?_
    refine pw_getf e_Mod_go_168 fl_Mod_283 (gO_get hnd (i := 0) rfl) rfl ?_
    refine pw_eqst (congrArg (fun q => Value.int q :: [.ref (A 100)]) (show _ = nI (pN Z 100 46) from hw.1.1)) ?_
    refine pw_detV (As := [.int (nI (pN Z 100 46))]) e_Mod_go_171 li_Mod_280 rfl (gO_get hnd (i := 0) rfl) (q_Mod_byteAt hst hnd (pN Z 100 46) (by omega) Z (gO_in hnd (fun _ z => z)) hw) rfl (by decide) (Nat.le_of_ble_eq_true rfl) rfl ?_
    refine pw_bipush (v := nI 48) e_Mod_go_174 (by decide) ?_
    refine pw_icmp_lt (tgt := 247) e_Mod_go_176 (by decide) (fun (H1 : (f_Mod_byteAt (pN Z 100 46) Z) < 48) => ?_) (fun (H1 : ¬ (f_Mod_byteAt (pN Z 100 46) Z) < 48) => ?_)
    · refine pw_aload_n e_Mod_go_247 rfl ?_
      refine pw_iconst (v := nI 2) e_Mod_go_248 (by decide) ?_
      refine pw_putGi (i := 0) (ps := 49) (x := 2) e_Mod_go_249 fp_Mod_295 hnd (mo_x _ _) rfl (Nat.le_of_ble_eq_true rfl) rfl rfl (fun _ _ => rfl) ?_
      refine pw_goto (tgt := 280) e_Mod_go_252 (by decide) ?_
      refine pw_vret e_Mod_go_280 rfl ?_
      rw [f_Mod_go_166, if_pos H1] at hk
      exact hk
    · refine pw_aload_n e_Mod_go_179 rfl ?_
      refine pw_aload_n e_Mod_go_180 rfl ?_
      refine pw_getf e_Mod_go_181 fl_Mod_283 (gO_get hnd (i := 0) rfl) rfl ?_
      refine pw_eqst (congrArg (fun q => Value.int q :: [.ref (A 100)]) (show _ = nI (pN Z 100 46) from hw.1.1)) ?_
      refine pw_detV (As := [.int (nI (pN Z 100 46))]) e_Mod_go_184 li_Mod_280 rfl (gO_get hnd (i := 0) rfl) (q_Mod_byteAt hst hnd (pN Z 100 46) (by omega) Z (gO_in hnd (fun _ z => z)) hw) rfl (by decide) (Nat.le_of_ble_eq_true rfl) rfl ?_
      refine pw_bipush (v := nI 57) e_Mod_go_187 (by decide) ?_
      refine pw_icmp_gt (tgt := 247) e_Mod_go_189 (by decide) (fun (H2 : 57 < (f_Mod_byteAt (pN Z 100 46) Z)) => ?_) (fun (H2 : ¬ 57 < (f_Mod_byteAt (pN Z 100 46) Z)) => ?_)
      · refine pw_aload_n e_Mod_go_247 rfl ?_
        refine pw_iconst (v := nI 2) e_Mod_go_248 (by decide) ?_
        refine pw_putGi (i := 0) (ps := 49) (x := 2) e_Mod_go_249 fp_Mod_295 hnd (mo_x _ _) rfl (Nat.le_of_ble_eq_true rfl) rfl rfl (fun _ _ => rfl) ?_
        refine pw_goto (tgt := 280) e_Mod_go_252 (by decide) ?_
        refine pw_vret e_Mod_go_280 rfl ?_
        rw [f_Mod_go_166, if_neg H1, if_pos H2] at hk
        exact hk
      · refine pw_aload_n e_Mod_go_192 rfl ?_
        refine pw_aload_n e_Mod_go_193 rfl ?_
        refine pw_getf e_Mod_go_194 fl_Mod_283 (gO_get hnd (i := 0) rfl) rfl ?_
        refine pw_eqst (congrArg (fun q => Value.int q :: [.ref (A 100)]) (show _ = nI (pN Z 100 46) from hw.1.1)) ?_
        refine pw_aload_n e_Mod_go_197 rfl ?_
        refine pw_getf e_Mod_go_198 fl_Mod_286 (gO_get hnd (i := 0) rfl) rfl ?_
        refine pw_isub e_Mod_go_201 ?_
        refine pw_iconst (v := nI 4) e_Mod_go_202 (by decide) ?_
        refine pw_icmp_ge (tgt := 228) e_Mod_go_203 (by decide) (fun (H3 : 4 ≤ ((nI (pN Z 100 46)) - (Z 100 47))) => ?_) (fun (H3 : ¬ 4 ≤ ((nI (pN Z 100 46)) - (Z 100 47))) => ?_)
        · refine pw_ldcw e_Mod_go_228 kc_Mod_304 ?_
          refine pw_putGi (i := 0) (ps := 50) (x := 99999) e_Mod_go_231 fp_Mod_292 hnd (mo_x _ _) rfl (Nat.le_of_ble_eq_true rfl) rfl rfl (fun _ _ => rfl) ?_
          refine pw_aload_n e_Mod_go_234 rfl ?_
          refine pw_dup e_Mod_go_235 rfl ?_
          refine pw_getf e_Mod_go_236 fl_Mod_283 (gO_get hnd (i := 0) rfl) rfl ?_
          refine pw_eqst (congrArg (fun q => Value.int q :: [.ref (A 100)]) (show _ = nI (pN Z 100 46) from (u2_i (by decide) hw.1.1))) ?_
          refine pw_iconst (v := nI 1) e_Mod_go_239 (by decide) ?_
          refine pw_iaddN e_Mod_go_240 ?_
          refine pw_putGi (i := 0) (ps := 46) (x := nI ((pN Z 100 46) + 1)) e_Mod_go_241 fp_Mod_283 hnd (mo_x _ _) rfl (Nat.le_of_ble_eq_true rfl) rfl rfl (fun _ _ => rfl) ?_
          refine pw_goto (tgt := 166) e_Mod_go_244 (by decide) ?_
          refine ih (u2 (u2 Z 100 50 99999) 100 46 (nI ((pN Z 100 46) + 1))) (GoI.nx (GoI.vl hw (by first | exact ⟨0, rfl, by decide⟩ | exact ⟨99999, rfl, by decide⟩ | exact val_A hw hV (by assumption) (by assumption) (by assumption))) (by show _ ≤ pN Z 100 48; first | omega | (have := lt_let hw (by assumption); omega) | (have := lt_dig hw (by assumption); omega))) (by first | exact vi_A hw hV (by assumption) (by assumption) (by assumption) | exact vi_B hw hV (by assumption)) (mu_nx u2_s (u2_i (by decide) (u2_i (by decide) rfl)) hw (lt_dig hw H1) hlt) ?_
          rw [f_Mod_go_166, if_neg H1, if_neg H2, if_pos H3] at hk
          exact hk
        · refine pw_bipush (v := nI 10) e_Mod_go_206 (by decide) ?_
          refine pw_aload_n e_Mod_go_208 rfl ?_
          refine pw_getf e_Mod_go_209 fl_Mod_292 (gO_get hnd (i := 0) rfl) rfl ?_
          refine pw_imul e_Mod_go_212 ?_
          refine pw_aload_n e_Mod_go_213 rfl ?_
          refine pw_aload_n e_Mod_go_214 rfl ?_
          refine pw_getf e_Mod_go_215 fl_Mod_283 (gO_get hnd (i := 0) rfl) rfl ?_
          refine pw_eqst (congrArg (fun q => Value.int q :: [.ref (A 100), .int (10 * (Z 100 50)), .ref (A 100)]) (show _ = nI (pN Z 100 46) from hw.1.1)) ?_
          refine pw_detV (As := [.int (nI (pN Z 100 46))]) e_Mod_go_218 li_Mod_280 rfl (gO_get hnd (i := 0) rfl) (q_Mod_byteAt hst hnd (pN Z 100 46) (by omega) Z (gO_in hnd (fun _ z => z)) hw) rfl (by decide) (Nat.le_of_ble_eq_true rfl) rfl ?_
          refine pw_iadd e_Mod_go_221 ?_
          refine pw_bipush (v := nI 48) e_Mod_go_222 (by decide) ?_
          refine pw_isub e_Mod_go_224 ?_
          refine pw_goto (tgt := 231) e_Mod_go_225 (by decide) ?_
          refine pw_putGi (i := 0) (ps := 50) (x := ((10 * (Z 100 50)) + (f_Mod_byteAt (pN Z 100 46) Z)) - 48) e_Mod_go_231 fp_Mod_292 hnd (mo_x _ _) rfl (Nat.le_of_ble_eq_true rfl) rfl rfl (fun _ _ => rfl) ?_
          refine pw_aload_n e_Mod_go_234 rfl ?_
          refine pw_dup e_Mod_go_235 rfl ?_
          refine pw_getf e_Mod_go_236 fl_Mod_283 (gO_get hnd (i := 0) rfl) rfl ?_
          refine pw_eqst (congrArg (fun q => Value.int q :: [.ref (A 100)]) (show _ = nI (pN Z 100 46) from (u2_i (by decide) hw.1.1))) ?_
          refine pw_iconst (v := nI 1) e_Mod_go_239 (by decide) ?_
          refine pw_iaddN e_Mod_go_240 ?_
          refine pw_putGi (i := 0) (ps := 46) (x := nI ((pN Z 100 46) + 1)) e_Mod_go_241 fp_Mod_283 hnd (mo_x _ _) rfl (Nat.le_of_ble_eq_true rfl) rfl rfl (fun _ _ => rfl) ?_
          refine pw_goto (tgt := 166) e_Mod_go_244 (by decide) ?_
          refine ih (u2 (u2 Z 100 50 (((10 * (Z 100 50)) + (f_Mod_byteAt (pN Z 100 46) Z)) - 48)) 100 46 (nI ((pN Z 100 46) + 1))) (GoI.nx (GoI.vl hw (by first | exact ⟨0, rfl, by decide⟩ | exact ⟨99999, rfl, by decide⟩ | exact val_A hw hV (by assumption) (by assumption) (by assumption))) (by show _ ≤ pN Z 100 48; first | omega | (have := lt_let hw (by assumption); omega) | (have := lt_dig hw (by assumption); omega))) (by first | exact vi_A hw hV (by assumption) (by assumption) (by assumption) | exact vi_B hw hV (by assumption)) (mu_nx u2_s (u2_i (by decide) (u2_i (by decide) rfl)) hw (lt_dig hw H1) hlt) ?_
          rw [f_Mod_go_166, if_neg H1, if_neg H2, if_neg H3] at hk
          exact hk
noncomputable def f_Mod_go_103  : Nat → (Nat → Nat → Int32) → (Nat → Nat → Int32)
  | 0, Z => Z
  | t + 1, Z => if (f_Mod_isLetter (f_Mod_byteAt (pN Z 100 46) Z)) = 0 then u2 (u2 Z 100 49 1) 100 51 (f_Mod_wordFrom (pN Z 100 47) (pN Z 100 46) (u2 Z 100 49 1)) else f_Mod_go_103  t (u2 Z 100 46 (nI ((pN Z 100 46) + 1)))
set_option maxRecDepth 4000 in
theorem w_Mod_go_103 {g : GG} {Q : QT} {h : Hp} {kc ks : Nat} (hst : (gl g).stackTraces = false) {A : Nat → Nat} (hnd : (gK (moL g A)).Nodup)  (t : Nat) : ∀ (Z : Nat → Nat → Int32) (hw : GoI Z) (hpl : Z 100 47 = nI (pN Z 100 47) ∧ pN Z 100 47 ≤ 900) (hlt : muG Z < t) (hk : Q (.inl none) (ov h (gO (moL g A) (f_Mod_go_103  t Z)))), PW g M_Mod_go 2 kc ks Q 103 [.ref (A 100), .retAddr 0] [] (ov h (gO (moL g A) Z)) := by
  induction t with
  | zero => intro Z hw hpl hlt _; exact absurd hlt (Nat.not_lt_zero _)
  | succ t ih =>
    intro Z hw hpl hlt hk
    have hz0 := hw.1.2
    have hz1 := hw.2.1.2
    refine pw_aload_n e_Mod_go_103 rfl ?_
    refine pw_aload_n e_Mod_go_104 rfl ?_
    refine pw_getf e_Mod_go_105 fl_Mod_283 (gO_get hnd (i := 0) rfl) rfl ?_
    refine pw_eqst (congrArg (fun q => Value.int q :: [.ref (A 100)]) (show _ = nI (pN Z 100 46) from hw.1.1)) ?_
    refine pw_detV (As := [.int (nI (pN Z 100 46))]) e_Mod_go_108 li_Mod_280 rfl (gO_get hnd (i := 0) rfl) (q_Mod_byteAt hst hnd (pN Z 100 46) (by omega) Z (gO_in hnd (fun _ z => z)) hw) rfl (by decide) (Nat.le_of_ble_eq_true rfl) rfl ?_
    refine pw_detS (As := [.int (f_Mod_byteAt (pN Z 100 46) Z)]) e_Mod_go_111 li_Mod_298 (q_Mod_isLetter hst (f_Mod_byteAt (pN Z 100 46) Z)) rfl (by decide) (Nat.le_of_ble_eq_true rfl) rfl ?_
    refine pw_if_eq (tgt := 130) e_Mod_go_114 (by decide) (fun (H1 : (f_Mod_isLetter (f_Mod_byteAt (pN Z 100 46) Z)) = 0) => ?_) (fun (H1 : ¬ (f_Mod_isLetter (f_Mod_byteAt (pN Z 100 46) Z)) = 0) => ?_)
    · refine pw_aload_n e_Mod_go_130 rfl ?_
      refine pw_iconst (v := nI 1) e_Mod_go_131 (by decide) ?_
      refine pw_putGi (i := 0) (ps := 49) (x := 1) e_Mod_go_132 fp_Mod_295 hnd (mo_x _ _) rfl (Nat.le_of_ble_eq_true rfl) rfl rfl (fun _ _ => rfl) ?_
      refine pw_aload_n e_Mod_go_135 rfl ?_
      refine pw_aload_n e_Mod_go_136 rfl ?_
      refine pw_aload_n e_Mod_go_137 rfl ?_
      refine pw_getf e_Mod_go_138 fl_Mod_286 (gO_get hnd (i := 0) rfl) rfl ?_
      refine pw_eqst (congrArg (fun q => Value.int q :: [.ref (A 100), .ref (A 100)]) (show _ = nI (pN Z 100 47) from (u2_i (by decide) hpl.1))) ?_
      refine pw_aload_n e_Mod_go_141 rfl ?_
      refine pw_getf e_Mod_go_142 fl_Mod_283 (gO_get hnd (i := 0) rfl) rfl ?_
      refine pw_eqst (congrArg (fun q => Value.int q :: [.int (nI (pN Z 100 47)), .ref (A 100), .ref (A 100)]) (show _ = nI (pN Z 100 46) from (u2_i (by decide) hw.1.1))) ?_
      refine pw_detV (As := [.int (nI (pN Z 100 47)), .int (nI (pN Z 100 46))]) e_Mod_go_145 li_Mod_301 rfl (gO_get hnd (i := 0) rfl) (q_Mod_wordFrom hst hnd (pN Z 100 47) (pN Z 100 46) (by omega) (by omega) (u2 Z 100 49 1) (gO_in hnd (fun _ z => z)) (GoI.u100 (i := 49) hw (by decide))) rfl (by decide) (Nat.le_of_ble_eq_true rfl) rfl ?_
      refine pw_putGi (i := 0) (ps := 51) (x := f_Mod_wordFrom (pN Z 100 47) (pN Z 100 46) (u2 Z 100 49 1)) e_Mod_go_148 fp_Mod_289 hnd (mo_x _ _) rfl (Nat.le_of_ble_eq_true rfl) rfl rfl (fun _ _ => rfl) ?_
      refine pw_goto (tgt := 280) e_Mod_go_151 (by decide) ?_
      refine pw_vret e_Mod_go_280 rfl ?_
      rw [f_Mod_go_103, if_pos H1] at hk
      exact hk
    · refine pw_aload_n e_Mod_go_117 rfl ?_
      refine pw_dup e_Mod_go_118 rfl ?_
      refine pw_getf e_Mod_go_119 fl_Mod_283 (gO_get hnd (i := 0) rfl) rfl ?_
      refine pw_eqst (congrArg (fun q => Value.int q :: [.ref (A 100)]) (show _ = nI (pN Z 100 46) from hw.1.1)) ?_
      refine pw_iconst (v := nI 1) e_Mod_go_122 (by decide) ?_
      refine pw_iaddN e_Mod_go_123 ?_
      refine pw_putGi (i := 0) (ps := 46) (x := nI ((pN Z 100 46) + 1)) e_Mod_go_124 fp_Mod_283 hnd (mo_x _ _) rfl (Nat.le_of_ble_eq_true rfl) rfl rfl (fun _ _ => rfl) ?_
      refine pw_goto (tgt := 103) e_Mod_go_127 (by decide) ?_
      refine ih (u2 Z 100 46 (nI ((pN Z 100 46) + 1))) (GoI.nx hw (by show _ ≤ pN Z 100 48; first | omega | (have := lt_let hw (by assumption); omega) | (have := lt_dig hw (by assumption); omega))) (by exact hpl) (mu_nx u2_s (u2_i (by decide) rfl) hw (lt_let hw H1) hlt) ?_
      rw [f_Mod_go_103, if_neg H1] at hk
      exact hk
noncomputable def f_Mod_go_50  (Z : Nat → Nat → Int32) : (Nat → Nat → Int32) :=
  if (pN Z 100 46) < (pN Z 100 48) then if (f_Mod_isLetter (f_Mod_byteAt (pN Z 100 46) (u2 Z 100 47 (nI (pN Z 100 46))))) = 0 then if (f_Mod_byteAt (pN Z 100 46) (u2 Z 100 47 (nI (pN Z 100 46)))) < 48 then if (f_Mod_byteAt (pN Z 100 46) (u2 Z 100 47 (nI (pN Z 100 46)))) = 59 then u2 (u2 (u2 (u2 (u2 Z 100 47 (nI (pN Z 100 46))) 100 51 ((-1))) 100 50 0) 100 46 (nI ((pN Z 100 46) + 1))) 100 49 3 else u2 (u2 (u2 (u2 (u2 Z 100 47 (nI (pN Z 100 46))) 100 51 ((-1))) 100 50 0) 100 46 (nI ((pN Z 100 46) + 1))) 100 49 4 else if 57 < (f_Mod_byteAt (pN Z 100 46) (u2 Z 100 47 (nI (pN Z 100 46)))) then if (f_Mod_byteAt (pN Z 100 46) (u2 Z 100 47 (nI (pN Z 100 46)))) = 59 then u2 (u2 (u2 (u2 (u2 Z 100 47 (nI (pN Z 100 46))) 100 51 ((-1))) 100 50 0) 100 46 (nI ((pN Z 100 46) + 1))) 100 49 3 else u2 (u2 (u2 (u2 (u2 Z 100 47 (nI (pN Z 100 46))) 100 51 ((-1))) 100 50 0) 100 46 (nI ((pN Z 100 46) + 1))) 100 49 4 else f_Mod_go_166  (fu 901) (u2 (u2 (u2 Z 100 47 (nI (pN Z 100 46))) 100 51 ((-1))) 100 50 0) else f_Mod_go_103  (fu 901) (u2 (u2 (u2 Z 100 47 (nI (pN Z 100 46))) 100 51 ((-1))) 100 50 0) else u2 (u2 (u2 (u2 Z 100 47 (nI (pN Z 100 46))) 100 51 ((-1))) 100 50 0) 100 49 0
set_option maxRecDepth 4000 in
theorem w_Mod_go_50 {g : GG} {Q : QT} {h : Hp} {kc ks : Nat} (hst : (gl g).stackTraces = false) {A : Nat → Nat} (hnd : (gK (moL g A)).Nodup)  (Z : Nat → Nat → Int32) (hw : GoI Z) (hk : Q (.inl none) (ov h (gO (moL g A) (f_Mod_go_50  Z)))) : PW g M_Mod_go 2 kc ks Q 50 [.ref (A 100), .retAddr 0] [] (ov h (gO (moL g A) Z)) := by
  have hz0 := hw.1.2
  have hz1 := hw.2.1.2
  refine pw_aload_n e_Mod_go_50 rfl ?_
  refine pw_aload_n e_Mod_go_51 rfl ?_
  refine pw_getf e_Mod_go_52 fl_Mod_283 (gO_get hnd (i := 0) rfl) rfl ?_
  refine pw_eqst (congrArg (fun q => Value.int q :: [.ref (A 100)]) (show _ = nI (pN Z 100 46) from hw.1.1)) ?_
  refine pw_putGi (i := 0) (ps := 47) (x := nI (pN Z 100 46)) e_Mod_go_55 fp_Mod_286 hnd (mo_x _ _) rfl (Nat.le_of_ble_eq_true rfl) rfl rfl (fun _ _ => rfl) ?_
  refine pw_aload_n e_Mod_go_58 rfl ?_
  refine pw_aload_n e_Mod_go_59 rfl ?_
  refine pw_getf e_Mod_go_60 fl_Mod_283 (gO_get hnd (i := 0) rfl) rfl ?_
  refine pw_eqst (congrArg (fun q => Value.int q :: [.ref (A 100)]) (show _ = nI (pN Z 100 46) from (u2_i (by decide) hw.1.1))) ?_
  refine pw_detV (As := [.int (nI (pN Z 100 46))]) e_Mod_go_63 li_Mod_280 rfl (gO_get hnd (i := 0) rfl) (q_Mod_byteAt hst hnd (pN Z 100 46) (by omega) (u2 Z 100 47 (nI (pN Z 100 46))) (gO_in hnd (fun _ z => z)) (GoI.u100 (i := 47) hw (by decide))) rfl (by decide) (Nat.le_of_ble_eq_true rfl) rfl ?_
  refine pw_istore_n (ls2 := [_, _]) e_Mod_go_66 (by decide) rfl ?_
  refine pw_aload_n e_Mod_go_67 rfl ?_
  refine pw_iconst (v := (-1)) e_Mod_go_68 (by decide) ?_
  refine pw_putGi (i := 0) (ps := 51) (x := (-1)) e_Mod_go_69 fp_Mod_289 hnd (mo_x _ _) rfl (Nat.le_of_ble_eq_true rfl) rfl rfl (fun _ _ => rfl) ?_
  refine pw_aload_n e_Mod_go_72 rfl ?_
  refine pw_iconst (v := nI 0) e_Mod_go_73 (by decide) ?_
  refine pw_putGi (i := 0) (ps := 50) (x := 0) e_Mod_go_74 fp_Mod_292 hnd (mo_x _ _) rfl (Nat.le_of_ble_eq_true rfl) rfl rfl (fun _ _ => rfl) ?_
  refine pw_aload_n e_Mod_go_77 rfl ?_
  refine pw_getf e_Mod_go_78 fl_Mod_283 (gO_get hnd (i := 0) rfl) rfl ?_
  refine pw_eqst (congrArg (fun q => Value.int q :: []) (show _ = nI (pN Z 100 46) from (u2_i (by decide) (u2_i (by decide) (u2_i (by decide) hw.1.1))))) ?_
  refine pw_aload_n e_Mod_go_81 rfl ?_
  refine pw_getf e_Mod_go_82 fl_Mod_273 (gO_get hnd (i := 0) rfl) rfl ?_
  refine pw_eqst (congrArg (fun q => Value.int q :: [.int (nI (pN Z 100 46))]) (show _ = nI (pN Z 100 48) from (u2_i (by decide) (u2_i (by decide) (u2_i (by decide) hw.2.1.1))))) ?_
  refine pw_icmp_ltN (tgt := 96) e_Mod_go_85 (by decide) (by omega) (by omega) (fun (H1 : (pN Z 100 46) < (pN Z 100 48)) => ?_) (fun (H1 : (pN Z 100 48) ≤ (pN Z 100 46)) => ?_)
  · refine pw_iload_n e_Mod_go_96 rfl ?_
    refine pw_detS (As := [.int (f_Mod_byteAt (pN Z 100 46) (u2 Z 100 47 (nI (pN Z 100 46))))]) e_Mod_go_97 li_Mod_298 (q_Mod_isLetter hst (f_Mod_byteAt (pN Z 100 46) (u2 Z 100 47 (nI (pN Z 100 46))))) rfl (by decide) (Nat.le_of_ble_eq_true rfl) rfl ?_
    refine pw_if_eq (tgt := 154) e_Mod_go_100 (by decide) (fun (H2 : (f_Mod_isLetter (f_Mod_byteAt (pN Z 100 46) (u2 Z 100 47 (nI (pN Z 100 46))))) = 0) => ?_) (fun (H2 : ¬ (f_Mod_isLetter (f_Mod_byteAt (pN Z 100 46) (u2 Z 100 47 (nI (pN Z 100 46))))) = 0) => ?_)
    · refine pw_iload_n e_Mod_go_154 rfl ?_
      refine pw_bipush (v := nI 48) e_Mod_go_155 (by decide) ?_
      refine pw_icmp_lt (tgt := 255) e_Mod_go_157 (by decide) (fun (H3 : (f_Mod_byteAt (pN Z 100 46) (u2 Z 100 47 (nI (pN Z 100 46)))) < 48) => ?_) (fun (H3 : ¬ (f_Mod_byteAt (pN Z 100 46) (u2 Z 100 47 (nI (pN Z 100 46)))) < 48) => ?_)
      · refine pw_aload_n e_Mod_go_255 rfl ?_
        refine pw_dup e_Mod_go_256 rfl ?_
        refine pw_getf e_Mod_go_257 fl_Mod_283 (gO_get hnd (i := 0) rfl) rfl ?_
        refine pw_eqst (congrArg (fun q => Value.int q :: [.ref (A 100)]) (show _ = nI (pN Z 100 46) from (u2_i (by decide) (u2_i (by decide) (u2_i (by decide) hw.1.1))))) ?_
        refine pw_iconst (v := nI 1) e_Mod_go_260 (by decide) ?_
        refine pw_iaddN e_Mod_go_261 ?_
        refine pw_putGi (i := 0) (ps := 46) (x := nI ((pN Z 100 46) + 1)) e_Mod_go_262 fp_Mod_283 hnd (mo_x _ _) rfl (Nat.le_of_ble_eq_true rfl) rfl rfl (fun _ _ => rfl) ?_
        refine pw_aload_n e_Mod_go_265 rfl ?_
        refine pw_iload_n e_Mod_go_266 rfl ?_
        refine pw_bipush (v := nI 59) e_Mod_go_267 (by decide) ?_
        refine pw_icmp_ne (tgt := 276) e_Mod_go_269 (by decide) (fun (H4 : ¬ (f_Mod_byteAt (pN Z 100 46) (u2 Z 100 47 (nI (pN Z 100 46)))) = 59) => ?_) (fun (H4 : (f_Mod_byteAt (pN Z 100 46) (u2 Z 100 47 (nI (pN Z 100 46)))) = 59) => ?_)
        · refine pw_iconst (v := nI 4) e_Mod_go_276 (by decide) ?_
          refine pw_putGi (i := 0) (ps := 49) (x := 4) e_Mod_go_277 fp_Mod_295 hnd (mo_x _ _) rfl (Nat.le_of_ble_eq_true rfl) rfl rfl (fun _ _ => rfl) ?_
          refine pw_vret e_Mod_go_280 rfl ?_
          rw [f_Mod_go_50, if_pos H1, if_pos H2, if_pos H3, if_neg H4] at hk
          exact hk
        · refine pw_iconst (v := nI 3) e_Mod_go_272 (by decide) ?_
          refine pw_goto (tgt := 277) e_Mod_go_273 (by decide) ?_
          refine pw_putGi (i := 0) (ps := 49) (x := 3) e_Mod_go_277 fp_Mod_295 hnd (mo_x _ _) rfl (Nat.le_of_ble_eq_true rfl) rfl rfl (fun _ _ => rfl) ?_
          refine pw_vret e_Mod_go_280 rfl ?_
          rw [f_Mod_go_50, if_pos H1, if_pos H2, if_pos H3, if_pos H4] at hk
          exact hk
      · refine pw_iload_n e_Mod_go_160 rfl ?_
        refine pw_bipush (v := nI 57) e_Mod_go_161 (by decide) ?_
        refine pw_icmp_gt (tgt := 255) e_Mod_go_163 (by decide) (fun (H5 : 57 < (f_Mod_byteAt (pN Z 100 46) (u2 Z 100 47 (nI (pN Z 100 46))))) => ?_) (fun (H5 : ¬ 57 < (f_Mod_byteAt (pN Z 100 46) (u2 Z 100 47 (nI (pN Z 100 46))))) => ?_)
        · refine pw_aload_n e_Mod_go_255 rfl ?_
          refine pw_dup e_Mod_go_256 rfl ?_
          refine pw_getf e_Mod_go_257 fl_Mod_283 (gO_get hnd (i := 0) rfl) rfl ?_
          refine pw_eqst (congrArg (fun q => Value.int q :: [.ref (A 100)]) (show _ = nI (pN Z 100 46) from (u2_i (by decide) (u2_i (by decide) (u2_i (by decide) hw.1.1))))) ?_
          refine pw_iconst (v := nI 1) e_Mod_go_260 (by decide) ?_
          refine pw_iaddN e_Mod_go_261 ?_
          refine pw_putGi (i := 0) (ps := 46) (x := nI ((pN Z 100 46) + 1)) e_Mod_go_262 fp_Mod_283 hnd (mo_x _ _) rfl (Nat.le_of_ble_eq_true rfl) rfl rfl (fun _ _ => rfl) ?_
          refine pw_aload_n e_Mod_go_265 rfl ?_
          refine pw_iload_n e_Mod_go_266 rfl ?_
          refine pw_bipush (v := nI 59) e_Mod_go_267 (by decide) ?_
          refine pw_icmp_ne (tgt := 276) e_Mod_go_269 (by decide) (fun (H6 : ¬ (f_Mod_byteAt (pN Z 100 46) (u2 Z 100 47 (nI (pN Z 100 46)))) = 59) => ?_) (fun (H6 : (f_Mod_byteAt (pN Z 100 46) (u2 Z 100 47 (nI (pN Z 100 46)))) = 59) => ?_)
          · refine pw_iconst (v := nI 4) e_Mod_go_276 (by decide) ?_
            refine pw_putGi (i := 0) (ps := 49) (x := 4) e_Mod_go_277 fp_Mod_295 hnd (mo_x _ _) rfl (Nat.le_of_ble_eq_true rfl) rfl rfl (fun _ _ => rfl) ?_
            refine pw_vret e_Mod_go_280 rfl ?_
            rw [f_Mod_go_50, if_pos H1, if_pos H2, if_neg H3, if_pos H5, if_neg H6] at hk
            exact hk
          · refine pw_iconst (v := nI 3) e_Mod_go_272 (by decide) ?_
            refine pw_goto (tgt := 277) e_Mod_go_273 (by decide) ?_
            refine pw_putGi (i := 0) (ps := 49) (x := 3) e_Mod_go_277 fp_Mod_295 hnd (mo_x _ _) rfl (Nat.le_of_ble_eq_true rfl) rfl rfl (fun _ _ => rfl) ?_
            refine pw_vret e_Mod_go_280 rfl ?_
            rw [f_Mod_go_50, if_pos H1, if_pos H2, if_neg H3, if_pos H5, if_pos H6] at hk
            exact hk
        · refine pw_fgt (ls' := [.ref (A 100), .retAddr 0]) ⟨Or.inr rfl, Or.inl rfl, trivial⟩ ?_
          refine w_Mod_go_166 hst hnd (fu 901) (u2 (u2 (u2 Z 100 47 (nI (pN Z 100 46))) 100 51 ((-1))) 100 50 0) (GoI.vl (GoI.u100 (i := 51) (GoI.u100 (i := 47) hw (by decide)) (by decide)) (by first | exact ⟨0, rfl, by decide⟩ | exact ⟨99999, rfl, by decide⟩ | exact val_A hw hV (by assumption) (by assumption) (by assumption))) (vi_0 (n := pN Z 100 46) (by omega) (u2_i (by decide) (u2_i (by decide) u2_s)) (u2_i (by decide) (u2_i (by decide) (u2_i (by decide) hw.1.1))) u2_s) (by rw [fu_eq]; exact GoI.mu0 (by first | exact hw | (repeat (first | exact hw | refine GoI.u100 ?_ (by decide) | exact GoI.vl (by repeat (first | exact hw | refine GoI.u100 ?_ (by decide))) ⟨0, rfl, by decide⟩)))) ?_
          rw [f_Mod_go_50, if_pos H1, if_pos H2, if_neg H3, if_neg H5] at hk
          exact hk
    · refine pw_fgt (ls' := [.ref (A 100), .retAddr 0]) ⟨Or.inr rfl, Or.inl rfl, trivial⟩ ?_
      refine w_Mod_go_103 hst hnd (fu 901) (u2 (u2 (u2 Z 100 47 (nI (pN Z 100 46))) 100 51 ((-1))) 100 50 0) (GoI.vl (GoI.u100 (i := 51) (GoI.u100 (i := 47) hw (by decide)) (by decide)) (by first | exact ⟨0, rfl, by decide⟩ | exact ⟨99999, rfl, by decide⟩ | exact val_A hw hV (by assumption) (by assumption) (by assumption))) (pl_0 (n := pN Z 100 46) (u2_i (by decide) (u2_i (by decide) u2_s)) (by omega)) (by rw [fu_eq]; exact GoI.mu0 (by first | exact hw | (repeat (first | exact hw | refine GoI.u100 ?_ (by decide) | exact GoI.vl (by repeat (first | exact hw | refine GoI.u100 ?_ (by decide))) ⟨0, rfl, by decide⟩)))) ?_
      rw [f_Mod_go_50, if_pos H1, if_neg H2] at hk
      exact hk
  · refine pw_aload_n e_Mod_go_88 rfl ?_
    refine pw_iconst (v := nI 0) e_Mod_go_89 (by decide) ?_
    refine pw_putGi (i := 0) (ps := 49) (x := 0) e_Mod_go_90 fp_Mod_295 hnd (mo_x _ _) rfl (Nat.le_of_ble_eq_true rfl) rfl rfl (fun _ _ => rfl) ?_
    refine pw_goto (tgt := 280) e_Mod_go_93 (by decide) ?_
    refine pw_vret e_Mod_go_280 rfl ?_
    rw [f_Mod_go_50, if_neg (Nat.not_lt.mpr H1)] at hk
    exact hk
noncomputable def f_Mod_go_L  : Nat → (Nat → Nat → Int32) → (Nat → Nat → Int32)
  | 0, Z => Z
  | t + 1, Z => if (pN Z 100 48) ≤ (pN Z 100 46) then f_Mod_go_50  Z else if (f_Mod_byteAt (pN Z 100 46) Z) = 32 then f_Mod_go_L  t (u2 Z 100 46 (nI ((pN Z 100 46) + 1))) else if (f_Mod_byteAt (pN Z 100 46) Z) = 10 then f_Mod_go_L  t (u2 Z 100 46 (nI ((pN Z 100 46) + 1))) else f_Mod_go_50  Z
set_option maxRecDepth 4000 in
theorem w_Mod_go_L {g : GG} {Q : QT} {h : Hp} {kc ks : Nat} (hst : (gl g).stackTraces = false) {A : Nat → Nat} (hnd : (gK (moL g A)).Nodup)  (t : Nat) : ∀ (Z : Nat → Nat → Int32) (hw : GoI Z) (hlt : muG Z < t) (hk : Q (.inl none) (ov h (gO (moL g A) (f_Mod_go_L  t Z)))), PW g M_Mod_go 2 kc ks Q 0 [.ref (A 100), .retAddr 0] [] (ov h (gO (moL g A) Z)) := by
  induction t with
  | zero => intro Z hw hlt _; exact absurd hlt (Nat.not_lt_zero _)
  | succ t ih =>
    intro Z hw hlt hk
    have hz0 := hw.1.2
    have hz1 := hw.2.1.2
    refine pw_aload_n e_Mod_go_0 rfl ?_
    refine pw_getf e_Mod_go_1 fl_Mod_283 (gO_get hnd (i := 0) rfl) rfl ?_
    refine pw_eqst (congrArg (fun q => Value.int q :: []) (show _ = nI (pN Z 100 46) from hw.1.1)) ?_
    refine pw_aload_n e_Mod_go_4 rfl ?_
    refine pw_getf e_Mod_go_5 fl_Mod_273 (gO_get hnd (i := 0) rfl) rfl ?_
    refine pw_eqst (congrArg (fun q => Value.int q :: [.int (nI (pN Z 100 46))]) (show _ = nI (pN Z 100 48) from hw.2.1.1)) ?_
    refine pw_icmp_geN (tgt := 50) e_Mod_go_8 (by decide) (by omega) (by omega) (fun (H1 : (pN Z 100 48) ≤ (pN Z 100 46)) => ?_) (fun (H1 : (pN Z 100 46) < (pN Z 100 48)) => ?_)
    · refine w_Mod_go_50 hst hnd Z hw ?_
      rw [f_Mod_go_L, if_pos H1] at hk
      exact hk
    · refine pw_aload_n e_Mod_go_11 rfl ?_
      refine pw_aload_n e_Mod_go_12 rfl ?_
      refine pw_getf e_Mod_go_13 fl_Mod_283 (gO_get hnd (i := 0) rfl) rfl ?_
      refine pw_eqst (congrArg (fun q => Value.int q :: [.ref (A 100)]) (show _ = nI (pN Z 100 46) from hw.1.1)) ?_
      refine pw_detV (As := [.int (nI (pN Z 100 46))]) e_Mod_go_16 li_Mod_280 rfl (gO_get hnd (i := 0) rfl) (q_Mod_byteAt hst hnd (pN Z 100 46) (by omega) Z (gO_in hnd (fun _ z => z)) hw) rfl (by decide) (Nat.le_of_ble_eq_true rfl) rfl ?_
      refine pw_bipush (v := nI 32) e_Mod_go_19 (by decide) ?_
      refine pw_icmp_eq (tgt := 37) e_Mod_go_21 (by decide) (fun (H2 : (f_Mod_byteAt (pN Z 100 46) Z) = 32) => ?_) (fun (H2 : ¬ (f_Mod_byteAt (pN Z 100 46) Z) = 32) => ?_)
      · refine pw_aload_n e_Mod_go_37 rfl ?_
        refine pw_dup e_Mod_go_38 rfl ?_
        refine pw_getf e_Mod_go_39 fl_Mod_283 (gO_get hnd (i := 0) rfl) rfl ?_
        refine pw_eqst (congrArg (fun q => Value.int q :: [.ref (A 100)]) (show _ = nI (pN Z 100 46) from hw.1.1)) ?_
        refine pw_iconst (v := nI 1) e_Mod_go_42 (by decide) ?_
        refine pw_iaddN e_Mod_go_43 ?_
        refine pw_putGi (i := 0) (ps := 46) (x := nI ((pN Z 100 46) + 1)) e_Mod_go_44 fp_Mod_283 hnd (mo_x _ _) rfl (Nat.le_of_ble_eq_true rfl) rfl rfl (fun _ _ => rfl) ?_
        refine pw_goto (tgt := 0) e_Mod_go_47 (by decide) ?_
        refine ih (u2 Z 100 46 (nI ((pN Z 100 46) + 1))) (GoI.nx hw (by show _ ≤ pN Z 100 48; first | omega | (have := lt_let hw (by assumption); omega) | (have := lt_dig hw (by assumption); omega))) (mu_nx u2_s (u2_i (by decide) rfl) hw (by omega) hlt) ?_
        rw [f_Mod_go_L, if_neg (Nat.not_le.mpr H1), if_pos H2] at hk
        exact hk
      · refine pw_aload_n e_Mod_go_24 rfl ?_
        refine pw_aload_n e_Mod_go_25 rfl ?_
        refine pw_getf e_Mod_go_26 fl_Mod_283 (gO_get hnd (i := 0) rfl) rfl ?_
        refine pw_eqst (congrArg (fun q => Value.int q :: [.ref (A 100)]) (show _ = nI (pN Z 100 46) from hw.1.1)) ?_
        refine pw_detV (As := [.int (nI (pN Z 100 46))]) e_Mod_go_29 li_Mod_280 rfl (gO_get hnd (i := 0) rfl) (q_Mod_byteAt hst hnd (pN Z 100 46) (by omega) Z (gO_in hnd (fun _ z => z)) hw) rfl (by decide) (Nat.le_of_ble_eq_true rfl) rfl ?_
        refine pw_bipush (v := nI 10) e_Mod_go_32 (by decide) ?_
        refine pw_icmp_ne (tgt := 50) e_Mod_go_34 (by decide) (fun (H3 : ¬ (f_Mod_byteAt (pN Z 100 46) Z) = 10) => ?_) (fun (H3 : (f_Mod_byteAt (pN Z 100 46) Z) = 10) => ?_)
        · refine w_Mod_go_50 hst hnd Z hw ?_
          rw [f_Mod_go_L, if_neg (Nat.not_le.mpr H1), if_neg H2, if_neg H3] at hk
          exact hk
        · refine pw_aload_n e_Mod_go_37 rfl ?_
          refine pw_dup e_Mod_go_38 rfl ?_
          refine pw_getf e_Mod_go_39 fl_Mod_283 (gO_get hnd (i := 0) rfl) rfl ?_
          refine pw_eqst (congrArg (fun q => Value.int q :: [.ref (A 100)]) (show _ = nI (pN Z 100 46) from hw.1.1)) ?_
          refine pw_iconst (v := nI 1) e_Mod_go_42 (by decide) ?_
          refine pw_iaddN e_Mod_go_43 ?_
          refine pw_putGi (i := 0) (ps := 46) (x := nI ((pN Z 100 46) + 1)) e_Mod_go_44 fp_Mod_283 hnd (mo_x _ _) rfl (Nat.le_of_ble_eq_true rfl) rfl rfl (fun _ _ => rfl) ?_
          refine pw_goto (tgt := 0) e_Mod_go_47 (by decide) ?_
          refine ih (u2 Z 100 46 (nI ((pN Z 100 46) + 1))) (GoI.nx hw (by show _ ≤ pN Z 100 48; first | omega | (have := lt_let hw (by assumption); omega) | (have := lt_dig hw (by assumption); omega))) (mu_nx u2_s (u2_i (by decide) rfl) hw (by omega) hlt) ?_
          rw [f_Mod_go_L, if_neg (Nat.not_le.mpr H1), if_neg H2, if_pos H3] at hk
          exact hk
noncomputable def f_Mod_go  (Z : Nat → Nat → Int32) : (Nat → Nat → Int32) :=
  f_Mod_go_L  (fu 901) Z
set_option maxRecDepth 4000 in
theorem w_Mod_go_0 {g : GG} {Q : QT} {h : Hp} {kc ks : Nat} (hst : (gl g).stackTraces = false) {A : Nat → Nat} (hnd : (gK (moL g A)).Nodup)  (Z : Nat → Nat → Int32) (hw : GoI Z) (hk : Q (.inl none) (ov h (gO (moL g A) (f_Mod_go  Z)))) : PW g M_Mod_go 2 kc ks Q 0 [.ref (A 100), .retAddr 0] [] (ov h (gO (moL g A) Z)) := by
  have hz0 := hw.1.2
  have hz1 := hw.2.1.2
  refine w_Mod_go_L hst hnd (fu 901) Z hw (by rw [fu_eq]; exact hw.mu0) ?_
  rw [f_Mod_go] at hk
  exact hk
theorem q_Mod_go {g : GG} {h : Hp} (hst : (gl g).stackTraces = false) {A : Nat → Nat} (hnd : (gK (moL g A)).Nodup)  (Z : Nat → Nat → Int32) (hm : ∀ q ∈ gO (moL g A) Z, h q.1 = some q.2) (hw : GoI Z) : PM g M_Mod_go 2 0 0 [.ref (A 100)] h (RetV none (ov h (gO (moL g A) (f_Mod_go  Z)))) := by
  refine PM.of hst (by decide) rfl (fun v hv => ?_) (Nat.le_of_ble_eq_true rfl) ?_
  · simp only [List.mem_cons, List.not_mem_nil, or_false] at hv; rcases hv with rfl <;> rfl
  · have hq := w_Mod_go_0 (g := g) (Q := RetV none (ov h (gO (moL g A) (f_Mod_go  Z)))) (h := h) (kc := 0) (ks := 0) hst hnd Z hw ?_
    · rw [ov_self hm] at hq; exact hq
    · exact ⟨rfl, rfl⟩

