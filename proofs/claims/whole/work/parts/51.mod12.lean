/-! the reference: what numbers and words leave; blocks of a text (written by wip/whole/c_mod12.py) -/
/-- but for token and fault nothing has changed -/
def KW (Z Y : Nat → Nat → Int32) : Prop := (∀ k, k ≠ 100 → Y k = Z k) ∧ ∀ i, goK i → 52 ≠ i → 33 ≠ i → Y 100 i = Z 100 i
/-- tokens have been read -/
def RW (Z Y : Nat → Nat → Int32) : Prop := GoI Y ∧ KW Z Y ∧ pN Z 100 46 ≤ pN Y 100 46 ∧ (Y 100 52 = 0 → Z 100 52 = 0)
theorem RW.self {Z : Nat → Nat → Int32} (h : GoI Z) : RW Z Z := ⟨h, ⟨fun _ _ => rfl, fun _ _ _ _ => rfl⟩, Nat.le_refl _, fun q => q⟩
theorem wt_bad {x y : Int32} {Z : Nat → Nat → Int32} (h : (f_Mod_wants x y Z).2 100 52 = 0) : Z 100 52 = 0 := by
  apply Classical.byContradiction
  intro hn
  rw [f_Mod_wants, if_neg hn, if_neg hn] at h
  exact hn h
theorem RW.wt {x y : Int32} {Z Y : Nat → Nat → Int32} (h : RW Z Y) : RW Z (f_Mod_wants x y Y).2 := by
  refine ⟨g_wants h.1, ⟨fun k hk => (wt_k.1 k hk).trans (h.2.1.1 k hk), fun i h0 h1 h2 => (wt_k.2 i h1 h2).trans (h.2.1.2 i h0 h1 h2)⟩, ?_, fun q => h.2.2.2 (wt_bad q)⟩
  have e : pN (f_Mod_wants x y Y).2 100 46 = pN Y 100 46 := pN_o (wt_k.2 46 (by decide) (by decide))
  rw [e]; exact h.2.2.1
theorem RW.go {Z Y : Nat → Nat → Int32} (h : RW Z Y) : RW Z (s_Mod_go Y) := by
  have r := go_s h.1
  exact ⟨r.1, ⟨fun k hk => (r.2.1.1 k hk).trans (h.2.1.1 k hk), fun i h0 h1 h2 => (r.2.1.2 i h0).trans (h.2.1.2 i h0 h1 h2)⟩, Nat.le_trans h.2.2.1 r.2.2.1, fun q => h.2.2.2 ((r.2.1.2 52 (by unfold goK; decide)).symm.trans q)⟩
theorem RW.trans {X Y Z : Nat → Nat → Int32} (h : RW X Y) (h2 : RW Y Z) : RW X Z := ⟨h2.1, ⟨fun k hk => (h2.2.1.1 k hk).trans (h.2.1.1 k hk), fun i h0 h1 h3 => (h2.2.1.2 i h0 h1 h3).trans (h.2.1.2 i h0 h1 h3)⟩, Nat.le_trans h.2.2.1 h2.2.2.1, fun q => h.2.2.2 (h2.2.2.2 q)⟩
theorem rw_number {x y : Int32} {Z : Nat → Nat → Int32} (hw : GoI Z) : RW Z (f_Mod_number x y Z).2 := by
  rw [f_Mod_number]
  repeat' split
  all_goals (try dsimp only)
  all_goals repeat (first | exact RW.self hw | apply RW.wt | apply RW.go)
theorem RW.number {x y : Int32} {Z Y : Nat → Nat → Int32} (h : RW Z Y) : RW Z (f_Mod_number x y Y).2 := h.trans (rw_number h.1)
theorem rw_named {x y : Int32} {Z : Nat → Nat → Int32} (hw : GoI Z) : RW Z (f_Mod_named x y Z).2 := by
  rw [f_Mod_named]
  repeat' split
  all_goals (try dsimp only)
  all_goals repeat (first | exact RW.self hw | apply RW.wt | apply RW.go)
theorem RW.named {x y : Int32} {Z Y : Nat → Nat → Int32} (h : RW Z Y) : RW Z (f_Mod_named x y Y).2 := h.trans (rw_named h.1)
theorem rw_oneOf {x y : Int32} {Z : Nat → Nat → Int32} (hw : GoI Z) : RW Z (f_Mod_oneOf x y Z).2 := by
  rw [f_Mod_oneOf]
  repeat' split
  all_goals (try dsimp only)
  all_goals repeat (first | exact RW.self hw | apply RW.wt | apply RW.go)
theorem RW.oneOf {x y : Int32} {Z Y : Nat → Nat → Int32} (h : RW Z Y) : RW Z (f_Mod_oneOf x y Y).2 := h.trans (rw_oneOf h.1)
theorem win_ab {v : Int32} {a b : Nat} (ha : a < 2 ^ 30) (hb : b < 2 ^ 30) (H : ¬ f_Mod_within v (nI a) (nI b) = 0) : ∃ n, v = nI n ∧ a ≤ n ∧ n ≤ b := by
  rw [f_Mod_within] at H
  by_cases h0 : v < nI a
  · rw [if_pos h0] at H; exact absurd rfl H
  · rw [if_neg h0] at H
    by_cases h1 : nI b < v
    · rw [if_pos h1] at H; exact absurd rfl H
    · rw [i_lt, nI_toInt (by omega)] at h0 h1
      refine ⟨v.toInt.toNat, ?_, by omega, by omega⟩
      apply Int32.toInt_inj.mp
      rw [nI_toInt (by omega)]; omega
theorem wt_0 {x y : Int32} {Z : Nat → Nat → Int32} (hy : y ≠ 0) (H : (f_Mod_wants x y Z).1 = 0) : ¬ (f_Mod_wants x y Z).2 100 52 = 0 := by
  rw [f_Mod_wants] at H ⊢
  by_cases h0 : Z 100 52 = 0
  · rw [if_pos h0] at H ⊢
    by_cases h1 : x = 0
    · rw [if_pos h1]
      have e : (u2 (u2 Z 100 52 y) 100 33 ((u2 Z 100 52 y) 100 47)) 100 52 = y := u2_i (by decide) u2_s
      rw [e, if_neg hy]
      show ¬ (u2 (u2 Z 100 52 y) 100 33 ((u2 Z 100 52 y) 100 47)) 100 52 = 0
      rw [e]; exact hy
    · rw [if_neg h1, if_pos h0] at H; exact absurd (show (1 : Int32) = 0 from H) (by decide)
  · rw [if_neg h0, if_neg h0]; exact h0
theorem wt_n {y : Int32} {Z : Nat → Nat → Int32} (hy : y ≠ 0) : ¬ (f_Mod_wants (nI 0) y Z).2 100 52 = 0 :=
  wt_0 hy (Classical.byContradiction fun q => (wt_of hy q).1 rfl)
theorem nm_v {a b : Nat} {Z : Nat → Nat → Int32} (hab : a ≤ b) (hb : b < 2 ^ 30) : ∃ n, (f_Mod_number (nI a) (nI b) Z).1 = nI n ∧ a ≤ n ∧ n ≤ b := by
  rw [f_Mod_number]
  repeat' split
  all_goals first | exact ⟨a, rfl, Nat.le_refl _, hab⟩ | skip
  all_goals (rename_i c; have q := wt_of (by decide) c; dsimp only; rw [q.2.2]; exact win_ab (by omega) hb q.1)
theorem nd_v {a m : Nat} {Z : Nat → Nat → Int32} (hw : GoI Z) (ha : a < 2 ^ 30) (hm : m < 2 ^ 30) : ∃ n, (f_Mod_named (nI a) (nI m) Z).1 = nI n ∧ n ≤ a ∧ ((f_Mod_named (nI a) (nI m) Z).2 100 52 = 0 → n < m) := by
  rw [f_Mod_named]
  by_cases c1 : Z 100 52 = 0
  · rw [if_pos c1]
    by_cases c2 : Z 100 49 = 2
    · rw [if_pos c2]
      by_cases c3 : (f_Mod_wants (nI 1) (nI 1) Z).1 = 0
      · rw [if_pos c3]; exact ⟨0, rfl, Nat.zero_le _, fun q => absurd q (wt_0 (by decide) c3)⟩
      · rw [if_neg c3]
        have g1 := g_wants (x := nI 1) (y := nI 1) hw
        generalize (f_Mod_wants (nI 1) (nI 1) Z).2 = Y at g1 ⊢
        by_cases c4 : nI a < Y 100 50
        · rw [if_pos c4]; exact ⟨0, rfl, Nat.zero_le _, fun q => absurd q (wt_n (by decide))⟩
        · rw [if_neg c4]
          by_cases c5 : (f_Mod_wants (nI 1) (nI 2) Y).1 = 0
          · rw [if_pos c5]; exact ⟨0, rfl, Nat.zero_le _, fun q => absurd q (wt_0 (by decide) c5)⟩
          · rw [if_neg c5]
            rw [(wt_of (by decide) c5).2.2]
            by_cases c6 : nI m ≤ Y 100 50
            · rw [if_pos c6]; exact ⟨0, rfl, Nat.zero_le _, fun q => absurd q (wt_n (by decide))⟩
            · rw [if_neg c6]
              by_cases c7 : (f_Mod_wants (nI 1) (nI 3) Y).1 = 0
              · rw [if_pos c7]; exact ⟨0, rfl, Nat.zero_le _, fun q => absurd q (wt_0 (by decide) c7)⟩
              · rw [if_neg c7]
                dsimp only
                rw [(wt_of (by decide) c7).2.2]
                have hv := g1.2.2
                rw [hv.1] at c4 c6 ⊢
                rw [i_lt, nI_toInt (by omega), nI_toInt (by omega)] at c4
                rw [i_le, nI_toInt (by omega), nI_toInt (by omega)] at c6
                exact ⟨_, rfl, by omega, fun _ => by omega⟩
    · rw [if_neg c2]; exact ⟨0, rfl, Nat.zero_le _, fun q => absurd q (wt_n (by decide))⟩
  · rw [if_neg c1]; exact ⟨0, rfl, Nat.zero_le _, fun q => absurd q c1⟩
theorem oo_v {f m : Nat} {Z : Nat → Nat → Int32} (hf : f < 2 ^ 20) (hm : 1 ≤ m ∧ m < 2 ^ 20) : ∃ n, (f_Mod_oneOf (nI f) (nI m) Z).1 = nI n ∧ n < m := by
  have e1 : nI f + nI m - 1 = nI (f + m - 1) := by
    rw [nI_add, show (1 : Int32) = nI 1 from rfl, sub_nI (by omega)]
  rw [f_Mod_oneOf, e1]
  by_cases c1 : Z 100 52 = 0
  · rw [if_pos c1]
    by_cases c2 : Z 100 49 = 1
    · rw [if_pos c2]
      by_cases c3 : f_Mod_within (Z 100 51) (nI f) (nI (f + m - 1)) = 0
      · rw [if_pos c3]; exact ⟨0, rfl, by omega⟩
      · rw [if_neg c3]
        by_cases c4 : (f_Mod_wants (nI 1) (nI 1) Z).1 = 0
        · rw [if_pos c4]; exact ⟨0, rfl, by omega⟩
        · rw [if_neg c4]
          dsimp only
          rw [(wt_of (by decide) c4).2.2]
          obtain ⟨n, e, h1, h2⟩ := win_ab (by omega) (by omega) c3
          rw [e, sub_nI h1]
          exact ⟨_, rfl, by omega⟩
    · rw [if_neg c2]; exact ⟨0, rfl, by omega⟩
  · rw [if_neg c1]; exact ⟨0, rfl, by omega⟩
theorem b67 {Z : Nat → Nat → Int32} (h : Z 100 67 = nI (pN Z 100 67) ∧ pN Z 100 67 ≤ 10) (H : ¬ 10 ≤ Z 100 67) : Z 100 67 = nI (pN Z 100 67) ∧ pN Z 100 67 < 10 := by
  refine ⟨h.1, ?_⟩
  rw [h.1, i_le, nI_toInt (by omega), show (10 : Int32).toInt = 10 by decide] at H
  omega
theorem nn.rw {Z Y : Nat → Nat → Int32} {i n : Nat} (hi : goK i ∧ 52 ≠ i ∧ 33 ≠ i) (h : Z 100 i = nI (pN Z 100 i) ∧ pN Z 100 i < n) (r : RW Z Y) : Y 100 i = nI (pN Y 100 i) ∧ pN Y 100 i < n := by
  have e := r.2.1.2 i hi.1 hi.2.1 hi.2.2
  rw [pN_o e, e]; exact h
noncomputable def f_Mod_block1_255  (Z : Nat → Nat → Int32) (b : Nat) : (Nat → Nat → Int32) :=
  u2 Z 100 67 ((Z 100 67) + 1)
set_option maxRecDepth 4000 in
theorem w_Mod_block1_255 {g : GG} {Q : QT} {h : Hp} {kc ks : Nat} (hst : (gl g).stackTraces = false) {A : Nat → Nat} (hnd : (gK (moL g A)).Nodup)  (Z : Nat → Nat → Int32) (b : Nat) (hw : GoI Z) (hb : b < 10) (hk : Q (.inl none) (ov h (gO (moL g A) (f_Mod_block1_255  Z b)))) : PW g M_Mod_block1 4 kc ks Q 255 [.ref (A 100), .int (nI (b))] [] (ov h (gO (moL g A) Z)) := by
  have hz0 := hw.1.2
  have hz1 := hw.2.1.2
  refine pw_aload_n e_Mod_block1_255 rfl ?_
  refine pw_dup e_Mod_block1_256 rfl ?_
  refine pw_getf e_Mod_block1_257 fl_Mod_318 (gO_get hnd (i := 0) rfl) rfl ?_
  refine pw_iconst (v := nI 1) e_Mod_block1_260 (by decide) ?_
  refine pw_iadd e_Mod_block1_261 ?_
  refine pw_putGi (i := 0) (ps := 67) (x := (Z 100 67) + 1) e_Mod_block1_262 fp_Mod_318 hnd (mo_x _ _) rfl (Nat.le_of_ble_eq_true rfl) rfl rfl (fun _ _ => rfl) ?_
  refine pw_vret e_Mod_block1_265 rfl ?_
  rw [f_Mod_block1_255] at hk
  exact hk
noncomputable def f_Mod_block1_240  (Z : Nat → Nat → Int32) (b : Nat) : (Nat → Nat → Int32) :=
  f_Mod_block1_255  (u2 ((f_Mod_oneOf (nI 14) (nI 2) Z).2) 56 b (1 - ((f_Mod_oneOf (nI 14) (nI 2) Z).1))) b
set_option maxRecDepth 4000 in
theorem w_Mod_block1_240 {g : GG} {Q : QT} {h : Hp} {kc ks : Nat} (hst : (gl g).stackTraces = false) {A : Nat → Nat} (hnd : (gK (moL g A)).Nodup)  (Z : Nat → Nat → Int32) (b : Nat) (hw : GoI Z) (hb : b < 10) (hk : Q (.inl none) (ov h (gO (moL g A) (f_Mod_block1_240  Z b)))) : PW g M_Mod_block1 4 kc ks Q 240 [.ref (A 100), .int (nI (b))] [] (ov h (gO (moL g A) Z)) := by
  have hz0 := hw.1.2
  have hz1 := hw.2.1.2
  refine pw_aload_n e_Mod_block1_240 rfl ?_
  refine pw_getf e_Mod_block1_241 fl_Mod_117 (gO_get hnd (i := 0) rfl) rfl ?_
  refine pw_iload_n e_Mod_block1_244 rfl ?_
  refine pw_iconst (v := nI 1) e_Mod_block1_245 (by decide) ?_
  refine pw_aload_n e_Mod_block1_246 rfl ?_
  refine pw_bipush (v := nI 14) e_Mod_block1_247 (by decide) ?_
  refine pw_iconst (v := nI 2) e_Mod_block1_249 (by decide) ?_
  refine pw_detV (As := [.int (nI (14)), .int (nI (2))]) e_Mod_block1_250 li_Mod_330 rfl (gO_get hnd (i := 0) rfl) (q_Mod_oneOf hst hnd (nI 14) (nI 2) Z (gO_in hnd (fun _ z => z)) hw) rfl (by decide) (Nat.le_of_ble_eq_true rfl) rfl ?_
  refine pw_sameG hnd ?_
  refine pw_isub e_Mod_block1_253 ?_
  refine pw_iastG (i := 31) e_Mod_block1_254 hnd (mo_x _ _) rfl (by omega) (by decide) ?_
  refine w_Mod_block1_255 hst hnd (u2 ((f_Mod_oneOf (nI 14) (nI 2) Z).2) 56 b (1 - ((f_Mod_oneOf (nI 14) (nI 2) Z).1))) b (GoI.uk (k := 56) (rw_oneOf hw).1 (by decide)) (by omega) ?_
  rw [f_Mod_block1_240] at hk
  exact hk
noncomputable def f_Mod_block1_223  (Z : Nat → Nat → Int32) (b : Nat) : (Nat → Nat → Int32) :=
  f_Mod_block1_255  (u2 ((f_Mod_number (nI 1) (nI 1000) Z).2) 57 b ((f_Mod_number (nI 1) (nI 1000) Z).1)) b
set_option maxRecDepth 4000 in
theorem w_Mod_block1_223 {g : GG} {Q : QT} {h : Hp} {kc ks : Nat} (hst : (gl g).stackTraces = false) {A : Nat → Nat} (hnd : (gK (moL g A)).Nodup)  (Z : Nat → Nat → Int32) (b : Nat) (hw : GoI Z) (hb : b < 10) (hk : Q (.inl none) (ov h (gO (moL g A) (f_Mod_block1_223  Z b)))) : PW g M_Mod_block1 4 kc ks Q 223 [.ref (A 100), .int (nI (b))] [] (ov h (gO (moL g A) Z)) := by
  have hz0 := hw.1.2
  have hz1 := hw.2.1.2
  refine pw_aload_n e_Mod_block1_223 rfl ?_
  refine pw_getf e_Mod_block1_224 fl_Mod_120 (gO_get hnd (i := 0) rfl) rfl ?_
  refine pw_iload_n e_Mod_block1_227 rfl ?_
  refine pw_aload_n e_Mod_block1_228 rfl ?_
  refine pw_iconst (v := nI 1) e_Mod_block1_229 (by decide) ?_
  refine pw_sipush (v := nI 1000) e_Mod_block1_230 (by decide) ?_
  refine pw_detV (As := [.int (nI (1)), .int (nI (1000))]) e_Mod_block1_233 li_Mod_327 rfl (gO_get hnd (i := 0) rfl) (q_Mod_number hst hnd (nI 1) (nI 1000) Z (gO_in hnd (fun _ z => z)) hw) rfl (by decide) (Nat.le_of_ble_eq_true rfl) rfl ?_
  refine pw_sameG hnd ?_
  refine pw_iastG (i := 32) e_Mod_block1_236 hnd (mo_x _ _) rfl (by omega) (by decide) ?_
  refine pw_goto (tgt := 255) e_Mod_block1_237 (by decide) ?_
  refine w_Mod_block1_255 hst hnd (u2 ((f_Mod_number (nI 1) (nI 1000) Z).2) 57 b ((f_Mod_number (nI 1) (nI 1000) Z).1)) b (GoI.uk (k := 57) (rw_number hw).1 (by decide)) (by omega) ?_
  rw [f_Mod_block1_223] at hk
  exact hk
noncomputable def f_Mod_block1_201  (Z : Nat → Nat → Int32) (b : Nat) : (Nat → Nat → Int32) :=
  if ((Z 55) b) = 2 then f_Mod_block1_223  (u2 ((f_Mod_number (nI 0) (nI 3) Z).2) 56 b ((f_Mod_number (nI 0) (nI 3) Z).1)) b else f_Mod_block1_240  Z b
set_option maxRecDepth 4000 in
theorem w_Mod_block1_201 {g : GG} {Q : QT} {h : Hp} {kc ks : Nat} (hst : (gl g).stackTraces = false) {A : Nat → Nat} (hnd : (gK (moL g A)).Nodup)  (Z : Nat → Nat → Int32) (b : Nat) (hw : GoI Z) (hb : b < 10) (hk : Q (.inl none) (ov h (gO (moL g A) (f_Mod_block1_201  Z b)))) : PW g M_Mod_block1 4 kc ks Q 201 [.ref (A 100), .int (nI (b))] [] (ov h (gO (moL g A) Z)) := by
  have hz0 := hw.1.2
  have hz1 := hw.2.1.2
  refine pw_aload_n e_Mod_block1_201 rfl ?_
  refine pw_getf e_Mod_block1_202 fl_Mod_114 (gO_get hnd (i := 0) rfl) rfl ?_
  refine pw_iload_n e_Mod_block1_205 rfl ?_
  refine pw_ialdN e_Mod_block1_206 (gO_get hnd (i := 30) rfl) (by omega) (by decide) ?_
  refine pw_iconst (v := nI 2) e_Mod_block1_207 (by decide) ?_
  refine pw_icmp_ne (tgt := 240) e_Mod_block1_208 (by decide) (fun (H1 : ¬ ((Z 55) b) = 2) => ?_) (fun (H1 : ((Z 55) b) = 2) => ?_)
  · refine w_Mod_block1_240 hst hnd Z b hw (by omega) ?_
    rw [f_Mod_block1_201, if_neg H1] at hk
    exact hk
  · refine pw_aload_n e_Mod_block1_211 rfl ?_
    refine pw_getf e_Mod_block1_212 fl_Mod_117 (gO_get hnd (i := 0) rfl) rfl ?_
    refine pw_iload_n e_Mod_block1_215 rfl ?_
    refine pw_aload_n e_Mod_block1_216 rfl ?_
    refine pw_iconst (v := nI 0) e_Mod_block1_217 (by decide) ?_
    refine pw_iconst (v := nI 3) e_Mod_block1_218 (by decide) ?_
    refine pw_detV (As := [.int (nI (0)), .int (nI (3))]) e_Mod_block1_219 li_Mod_327 rfl (gO_get hnd (i := 0) rfl) (q_Mod_number hst hnd (nI 0) (nI 3) Z (gO_in hnd (fun _ z => z)) hw) rfl (by decide) (Nat.le_of_ble_eq_true rfl) rfl ?_
    refine pw_sameG hnd ?_
    refine pw_iastG (i := 31) e_Mod_block1_222 hnd (mo_x _ _) rfl (by omega) (by decide) ?_
    refine w_Mod_block1_223 hst hnd (u2 ((f_Mod_number (nI 0) (nI 3) Z).2) 56 b ((f_Mod_number (nI 0) (nI 3) Z).1)) b (GoI.uk (k := 56) (rw_number hw).1 (by decide)) (by omega) ?_
    rw [f_Mod_block1_201, if_pos H1] at hk
    exact hk
noncomputable def f_Mod_block1_185  (Z : Nat → Nat → Int32) (b : Nat) : (Nat → Nat → Int32) :=
  f_Mod_block1_255  (u2 ((f_Mod_oneOf (nI 12) (nI 2) Z).2) 59 b ((f_Mod_oneOf (nI 12) (nI 2) Z).1)) b
set_option maxRecDepth 4000 in
theorem w_Mod_block1_185 {g : GG} {Q : QT} {h : Hp} {kc ks : Nat} (hst : (gl g).stackTraces = false) {A : Nat → Nat} (hnd : (gK (moL g A)).Nodup)  (Z : Nat → Nat → Int32) (b : Nat) (hw : GoI Z) (hb : b < 10) (hk : Q (.inl none) (ov h (gO (moL g A) (f_Mod_block1_185  Z b)))) : PW g M_Mod_block1 4 kc ks Q 185 [.ref (A 100), .int (nI (b))] [] (ov h (gO (moL g A) Z)) := by
  have hz0 := hw.1.2
  have hz1 := hw.2.1.2
  refine pw_aload_n e_Mod_block1_185 rfl ?_
  refine pw_getf e_Mod_block1_186 fl_Mod_126 (gO_get hnd (i := 0) rfl) rfl ?_
  refine pw_iload_n e_Mod_block1_189 rfl ?_
  refine pw_aload_n e_Mod_block1_190 rfl ?_
  refine pw_bipush (v := nI 12) e_Mod_block1_191 (by decide) ?_
  refine pw_iconst (v := nI 2) e_Mod_block1_193 (by decide) ?_
  refine pw_detV (As := [.int (nI (12)), .int (nI (2))]) e_Mod_block1_194 li_Mod_330 rfl (gO_get hnd (i := 0) rfl) (q_Mod_oneOf hst hnd (nI 12) (nI 2) Z (gO_in hnd (fun _ z => z)) hw) rfl (by decide) (Nat.le_of_ble_eq_true rfl) rfl ?_
  refine pw_sameG hnd ?_
  refine pw_iastG (i := 34) e_Mod_block1_197 hnd (mo_x _ _) rfl (by omega) (by decide) ?_
  refine pw_goto (tgt := 255) e_Mod_block1_198 (by decide) ?_
  refine w_Mod_block1_255 hst hnd (u2 ((f_Mod_oneOf (nI 12) (nI 2) Z).2) 59 b ((f_Mod_oneOf (nI 12) (nI 2) Z).1)) b (GoI.uk (k := 59) (rw_oneOf hw).1 (by decide)) (by omega) ?_
  rw [f_Mod_block1_185] at hk
  exact hk
noncomputable def f_Mod_block1_170  (Z : Nat → Nat → Int32) (b : Nat) : (Nat → Nat → Int32) :=
  f_Mod_block1_185  (u2 ((f_Mod_oneOf (nI 10) (nI 2) Z).2) 58 b (1 + ((f_Mod_oneOf (nI 10) (nI 2) Z).1))) b
set_option maxRecDepth 4000 in
theorem w_Mod_block1_170 {g : GG} {Q : QT} {h : Hp} {kc ks : Nat} (hst : (gl g).stackTraces = false) {A : Nat → Nat} (hnd : (gK (moL g A)).Nodup)  (Z : Nat → Nat → Int32) (b : Nat) (hw : GoI Z) (hb : b < 10) (hk : Q (.inl none) (ov h (gO (moL g A) (f_Mod_block1_170  Z b)))) : PW g M_Mod_block1 4 kc ks Q 170 [.ref (A 100), .int (nI (b))] [] (ov h (gO (moL g A) Z)) := by
  have hz0 := hw.1.2
  have hz1 := hw.2.1.2
  refine pw_aload_n e_Mod_block1_170 rfl ?_
  refine pw_getf e_Mod_block1_171 fl_Mod_123 (gO_get hnd (i := 0) rfl) rfl ?_
  refine pw_iload_n e_Mod_block1_174 rfl ?_
  refine pw_iconst (v := nI 1) e_Mod_block1_175 (by decide) ?_
  refine pw_aload_n e_Mod_block1_176 rfl ?_
  refine pw_bipush (v := nI 10) e_Mod_block1_177 (by decide) ?_
  refine pw_iconst (v := nI 2) e_Mod_block1_179 (by decide) ?_
  refine pw_detV (As := [.int (nI (10)), .int (nI (2))]) e_Mod_block1_180 li_Mod_330 rfl (gO_get hnd (i := 0) rfl) (q_Mod_oneOf hst hnd (nI 10) (nI 2) Z (gO_in hnd (fun _ z => z)) hw) rfl (by decide) (Nat.le_of_ble_eq_true rfl) rfl ?_
  refine pw_sameG hnd ?_
  refine pw_iadd e_Mod_block1_183 ?_
  refine pw_iastG (i := 33) e_Mod_block1_184 hnd (mo_x _ _) rfl (by omega) (by decide) ?_
  refine w_Mod_block1_185 hst hnd (u2 ((f_Mod_oneOf (nI 10) (nI 2) Z).2) 58 b (1 + ((f_Mod_oneOf (nI 10) (nI 2) Z).1))) b (GoI.uk (k := 58) (rw_oneOf hw).1 (by decide)) (by omega) ?_
  rw [f_Mod_block1_170] at hk
  exact hk
noncomputable def f_Mod_block1_157  (Z : Nat → Nat → Int32) (b : Nat) : (Nat → Nat → Int32) :=
  f_Mod_block1_170  (u2 ((f_Mod_number (nI 0) (nI 100) Z).2) 57 b ((f_Mod_number (nI 0) (nI 100) Z).1)) b
set_option maxRecDepth 4000 in
theorem w_Mod_block1_157 {g : GG} {Q : QT} {h : Hp} {kc ks : Nat} (hst : (gl g).stackTraces = false) {A : Nat → Nat} (hnd : (gK (moL g A)).Nodup)  (Z : Nat → Nat → Int32) (b : Nat) (hw : GoI Z) (hb : b < 10) (hk : Q (.inl none) (ov h (gO (moL g A) (f_Mod_block1_157  Z b)))) : PW g M_Mod_block1 4 kc ks Q 157 [.ref (A 100), .int (nI (b))] [] (ov h (gO (moL g A) Z)) := by
  have hz0 := hw.1.2
  have hz1 := hw.2.1.2
  refine pw_aload_n e_Mod_block1_157 rfl ?_
  refine pw_getf e_Mod_block1_158 fl_Mod_120 (gO_get hnd (i := 0) rfl) rfl ?_
  refine pw_iload_n e_Mod_block1_161 rfl ?_
  refine pw_aload_n e_Mod_block1_162 rfl ?_
  refine pw_iconst (v := nI 0) e_Mod_block1_163 (by decide) ?_
  refine pw_bipush (v := nI 100) e_Mod_block1_164 (by decide) ?_
  refine pw_detV (As := [.int (nI (0)), .int (nI (100))]) e_Mod_block1_166 li_Mod_327 rfl (gO_get hnd (i := 0) rfl) (q_Mod_number hst hnd (nI 0) (nI 100) Z (gO_in hnd (fun _ z => z)) hw) rfl (by decide) (Nat.le_of_ble_eq_true rfl) rfl ?_
  refine pw_sameG hnd ?_
  refine pw_iastG (i := 32) e_Mod_block1_169 hnd (mo_x _ _) rfl (by omega) (by decide) ?_
  refine w_Mod_block1_170 hst hnd (u2 ((f_Mod_number (nI 0) (nI 100) Z).2) 57 b ((f_Mod_number (nI 0) (nI 100) Z).1)) b (GoI.uk (k := 57) (rw_number hw).1 (by decide)) (by omega) ?_
  rw [f_Mod_block1_157] at hk
  exact hk
noncomputable def f_Mod_block1_133  (Z : Nat → Nat → Int32) (b : Nat) : (Nat → Nat → Int32) :=
  if ((Z 55) b) = 1 then f_Mod_block1_157  (u2 ((f_Mod_number (nI 0) (nI 300) Z).2) 56 b ((f_Mod_number (nI 0) (nI 300) Z).1)) b else f_Mod_block1_201  Z b
set_option maxRecDepth 4000 in
theorem w_Mod_block1_133 {g : GG} {Q : QT} {h : Hp} {kc ks : Nat} (hst : (gl g).stackTraces = false) {A : Nat → Nat} (hnd : (gK (moL g A)).Nodup)  (Z : Nat → Nat → Int32) (b : Nat) (hw : GoI Z) (hb : b < 10) (hk : Q (.inl none) (ov h (gO (moL g A) (f_Mod_block1_133  Z b)))) : PW g M_Mod_block1 4 kc ks Q 133 [.ref (A 100), .int (nI (b))] [] (ov h (gO (moL g A) Z)) := by
  have hz0 := hw.1.2
  have hz1 := hw.2.1.2
  refine pw_aload_n e_Mod_block1_133 rfl ?_
  refine pw_getf e_Mod_block1_134 fl_Mod_114 (gO_get hnd (i := 0) rfl) rfl ?_
  refine pw_iload_n e_Mod_block1_137 rfl ?_
  refine pw_ialdN e_Mod_block1_138 (gO_get hnd (i := 30) rfl) (by omega) (by decide) ?_
  refine pw_iconst (v := nI 1) e_Mod_block1_139 (by decide) ?_
  refine pw_icmp_ne (tgt := 201) e_Mod_block1_140 (by decide) (fun (H1 : ¬ ((Z 55) b) = 1) => ?_) (fun (H1 : ((Z 55) b) = 1) => ?_)
  · refine w_Mod_block1_201 hst hnd Z b hw (by omega) ?_
    rw [f_Mod_block1_133, if_neg H1] at hk
    exact hk
  · refine pw_aload_n e_Mod_block1_143 rfl ?_
    refine pw_getf e_Mod_block1_144 fl_Mod_117 (gO_get hnd (i := 0) rfl) rfl ?_
    refine pw_iload_n e_Mod_block1_147 rfl ?_
    refine pw_aload_n e_Mod_block1_148 rfl ?_
    refine pw_iconst (v := nI 0) e_Mod_block1_149 (by decide) ?_
    refine pw_sipush (v := nI 300) e_Mod_block1_150 (by decide) ?_
    refine pw_detV (As := [.int (nI (0)), .int (nI (300))]) e_Mod_block1_153 li_Mod_327 rfl (gO_get hnd (i := 0) rfl) (q_Mod_number hst hnd (nI 0) (nI 300) Z (gO_in hnd (fun _ z => z)) hw) rfl (by decide) (Nat.le_of_ble_eq_true rfl) rfl ?_
    refine pw_sameG hnd ?_
    refine pw_iastG (i := 31) e_Mod_block1_156 hnd (mo_x _ _) rfl (by omega) (by decide) ?_
    refine w_Mod_block1_157 hst hnd (u2 ((f_Mod_number (nI 0) (nI 300) Z).2) 56 b ((f_Mod_number (nI 0) (nI 300) Z).1)) b (GoI.uk (k := 56) (rw_number hw).1 (by decide)) (by omega) ?_
    rw [f_Mod_block1_133, if_pos H1] at hk
    exact hk
noncomputable def f_Mod_block1_109  (Z : Nat → Nat → Int32) (b : Nat) : (Nat → Nat → Int32) :=
  if ((Z 55) b) = 0 then f_Mod_block1_255  (u2 ((f_Mod_number (nI 0) (nI 3) Z).2) 56 b ((f_Mod_number (nI 0) (nI 3) Z).1)) b else f_Mod_block1_133  Z b
set_option maxRecDepth 4000 in
theorem w_Mod_block1_109 {g : GG} {Q : QT} {h : Hp} {kc ks : Nat} (hst : (gl g).stackTraces = false) {A : Nat → Nat} (hnd : (gK (moL g A)).Nodup)  (Z : Nat → Nat → Int32) (b : Nat) (hw : GoI Z) (hb : b < 10) (hk : Q (.inl none) (ov h (gO (moL g A) (f_Mod_block1_109  Z b)))) : PW g M_Mod_block1 4 kc ks Q 109 [.ref (A 100), .int (nI (b))] [] (ov h (gO (moL g A) Z)) := by
  have hz0 := hw.1.2
  have hz1 := hw.2.1.2
  refine pw_aload_n e_Mod_block1_109 rfl ?_
  refine pw_getf e_Mod_block1_110 fl_Mod_114 (gO_get hnd (i := 0) rfl) rfl ?_
  refine pw_iload_n e_Mod_block1_113 rfl ?_
  refine pw_ialdN e_Mod_block1_114 (gO_get hnd (i := 30) rfl) (by omega) (by decide) ?_
  refine pw_if_ne (tgt := 133) e_Mod_block1_115 (by decide) (fun (H1 : ¬ ((Z 55) b) = 0) => ?_) (fun (H1 : ((Z 55) b) = 0) => ?_)
  · refine w_Mod_block1_133 hst hnd Z b hw (by omega) ?_
    rw [f_Mod_block1_109, if_neg H1] at hk
    exact hk
  · refine pw_aload_n e_Mod_block1_118 rfl ?_
    refine pw_getf e_Mod_block1_119 fl_Mod_117 (gO_get hnd (i := 0) rfl) rfl ?_
    refine pw_iload_n e_Mod_block1_122 rfl ?_
    refine pw_aload_n e_Mod_block1_123 rfl ?_
    refine pw_iconst (v := nI 0) e_Mod_block1_124 (by decide) ?_
    refine pw_iconst (v := nI 3) e_Mod_block1_125 (by decide) ?_
    refine pw_detV (As := [.int (nI (0)), .int (nI (3))]) e_Mod_block1_126 li_Mod_327 rfl (gO_get hnd (i := 0) rfl) (q_Mod_number hst hnd (nI 0) (nI 3) Z (gO_in hnd (fun _ z => z)) hw) rfl (by decide) (Nat.le_of_ble_eq_true rfl) rfl ?_
    refine pw_sameG hnd ?_
    refine pw_iastG (i := 31) e_Mod_block1_129 hnd (mo_x _ _) rfl (by omega) (by decide) ?_
    refine pw_goto (tgt := 255) e_Mod_block1_130 (by decide) ?_
    refine w_Mod_block1_255 hst hnd (u2 ((f_Mod_number (nI 0) (nI 3) Z).2) 56 b ((f_Mod_number (nI 0) (nI 3) Z).1)) b (GoI.uk (k := 56) (rw_number hw).1 (by decide)) (by omega) ?_
    rw [f_Mod_block1_109, if_pos H1] at hk
    exact hk
noncomputable def f_Mod_block1_81  (Z : Nat → Nat → Int32) (b : Nat) : (Nat → Nat → Int32) :=
  f_Mod_block1_109  (u2 (u2 (u2 (u2 Z 59 b 0) 58 b 0) 57 b 0) 56 b 0) b
set_option maxRecDepth 4000 in
theorem w_Mod_block1_81 {g : GG} {Q : QT} {h : Hp} {kc ks : Nat} (hst : (gl g).stackTraces = false) {A : Nat → Nat} (hnd : (gK (moL g A)).Nodup)  (Z : Nat → Nat → Int32) (b : Nat) (hw : GoI Z) (hb : b < 10) (hk : Q (.inl none) (ov h (gO (moL g A) (f_Mod_block1_81  Z b)))) : PW g M_Mod_block1 4 kc ks Q 81 [.ref (A 100), .int (nI (b))] [] (ov h (gO (moL g A) Z)) := by
  have hz0 := hw.1.2
  have hz1 := hw.2.1.2
  refine pw_aload_n e_Mod_block1_81 rfl ?_
  refine pw_getf e_Mod_block1_82 fl_Mod_117 (gO_get hnd (i := 0) rfl) rfl ?_
  refine pw_iload_n e_Mod_block1_85 rfl ?_
  refine pw_aload_n e_Mod_block1_86 rfl ?_
  refine pw_getf e_Mod_block1_87 fl_Mod_120 (gO_get hnd (i := 0) rfl) rfl ?_
  refine pw_iload_n e_Mod_block1_90 rfl ?_
  refine pw_aload_n e_Mod_block1_91 rfl ?_
  refine pw_getf e_Mod_block1_92 fl_Mod_123 (gO_get hnd (i := 0) rfl) rfl ?_
  refine pw_iload_n e_Mod_block1_95 rfl ?_
  refine pw_aload_n e_Mod_block1_96 rfl ?_
  refine pw_getf e_Mod_block1_97 fl_Mod_126 (gO_get hnd (i := 0) rfl) rfl ?_
  refine pw_iload_n e_Mod_block1_100 rfl ?_
  refine pw_iconst (v := nI 0) e_Mod_block1_101 (by decide) ?_
  refine pw_dup_x2 e_Mod_block1_102 rfl rfl rfl ?_
  refine pw_iastG (i := 34) e_Mod_block1_103 hnd (mo_x _ _) rfl (by omega) (by decide) ?_
  refine pw_dup_x2 e_Mod_block1_104 rfl rfl rfl ?_
  refine pw_iastG (i := 33) e_Mod_block1_105 hnd (mo_x _ _) rfl (by omega) (by decide) ?_
  refine pw_dup_x2 e_Mod_block1_106 rfl rfl rfl ?_
  refine pw_iastG (i := 32) e_Mod_block1_107 hnd (mo_x _ _) rfl (by omega) (by decide) ?_
  refine pw_iastG (i := 31) e_Mod_block1_108 hnd (mo_x _ _) rfl (by omega) (by decide) ?_
  refine w_Mod_block1_109 hst hnd (u2 (u2 (u2 (u2 Z 59 b 0) 58 b 0) 57 b 0) 56 b 0) b (GoI.uk (k := 56) (GoI.uk (k := 57) (GoI.uk (k := 58) (GoI.uk (k := 59) hw (by decide)) (by decide)) (by decide)) (by decide)) (by omega) ?_
  rw [f_Mod_block1_81] at hk
  exact hk
noncomputable def f_Mod_block1_60  (Z : Nat → Nat → Int32) (b : Nat) : (Nat → Nat → Int32) :=
  if (Z 100 52) = 0 then f_Mod_block1_81  (u2 ((f_Mod_oneOf (nI 6) (nI 4) Z).2) 55 b ((f_Mod_oneOf (nI 6) (nI 4) Z).1)) b else Z
set_option maxRecDepth 4000 in
theorem w_Mod_block1_60 {g : GG} {Q : QT} {h : Hp} {kc ks : Nat} (hst : (gl g).stackTraces = false) {A : Nat → Nat} (hnd : (gK (moL g A)).Nodup)  (Z : Nat → Nat → Int32) (b : Nat) (hw : GoI Z) (hb : b < 10) (hk : Q (.inl none) (ov h (gO (moL g A) (f_Mod_block1_60  Z b)))) : PW g M_Mod_block1 4 kc ks Q 60 [.ref (A 100), .int (nI (b))] [] (ov h (gO (moL g A) Z)) := by
  have hz0 := hw.1.2
  have hz1 := hw.2.1.2
  refine pw_aload_n e_Mod_block1_60 rfl ?_
  refine pw_getf e_Mod_block1_61 fl_Mod_305 (gO_get hnd (i := 0) rfl) rfl ?_
  refine pw_if_eq (tgt := 68) e_Mod_block1_64 (by decide) (fun (H1 : (Z 100 52) = 0) => ?_) (fun (H1 : ¬ (Z 100 52) = 0) => ?_)
  · refine pw_aload_n e_Mod_block1_68 rfl ?_
    refine pw_getf e_Mod_block1_69 fl_Mod_114 (gO_get hnd (i := 0) rfl) rfl ?_
    refine pw_iload_n e_Mod_block1_72 rfl ?_
    refine pw_aload_n e_Mod_block1_73 rfl ?_
    refine pw_bipush (v := nI 6) e_Mod_block1_74 (by decide) ?_
    refine pw_iconst (v := nI 4) e_Mod_block1_76 (by decide) ?_
    refine pw_detV (As := [.int (nI (6)), .int (nI (4))]) e_Mod_block1_77 li_Mod_330 rfl (gO_get hnd (i := 0) rfl) (q_Mod_oneOf hst hnd (nI 6) (nI 4) Z (gO_in hnd (fun _ z => z)) hw) rfl (by decide) (Nat.le_of_ble_eq_true rfl) rfl ?_
    refine pw_sameG hnd ?_
    refine pw_iastG (i := 30) e_Mod_block1_80 hnd (mo_x _ _) rfl (by omega) (by decide) ?_
    refine w_Mod_block1_81 hst hnd (u2 ((f_Mod_oneOf (nI 6) (nI 4) Z).2) 55 b ((f_Mod_oneOf (nI 6) (nI 4) Z).1)) b (GoI.uk (k := 55) (rw_oneOf hw).1 (by decide)) (by omega) ?_
    rw [f_Mod_block1_60, if_pos H1] at hk
    exact hk
  · refine pw_vret e_Mod_block1_67 rfl ?_
    rw [f_Mod_block1_60, if_neg H1] at hk
    exact hk
noncomputable def f_Mod_block1_47  (Z : Nat → Nat → Int32) (b : Nat) : (Nat → Nat → Int32) :=
  f_Mod_block1_60  (u2 ((f_Mod_number (nI 1) (nI 9) Z).2) 54 b ((f_Mod_number (nI 1) (nI 9) Z).1)) b
set_option maxRecDepth 4000 in
theorem w_Mod_block1_47 {g : GG} {Q : QT} {h : Hp} {kc ks : Nat} (hst : (gl g).stackTraces = false) {A : Nat → Nat} (hnd : (gK (moL g A)).Nodup)  (Z : Nat → Nat → Int32) (b : Nat) (hw : GoI Z) (hb : b < 10) (hk : Q (.inl none) (ov h (gO (moL g A) (f_Mod_block1_47  Z b)))) : PW g M_Mod_block1 4 kc ks Q 47 [.ref (A 100), .int (nI (b))] [] (ov h (gO (moL g A) Z)) := by
  have hz0 := hw.1.2
  have hz1 := hw.2.1.2
  refine pw_aload_n e_Mod_block1_47 rfl ?_
  refine pw_getf e_Mod_block1_48 fl_Mod_111 (gO_get hnd (i := 0) rfl) rfl ?_
  refine pw_iload_n e_Mod_block1_51 rfl ?_
  refine pw_aload_n e_Mod_block1_52 rfl ?_
  refine pw_iconst (v := nI 1) e_Mod_block1_53 (by decide) ?_
  refine pw_bipush (v := nI 9) e_Mod_block1_54 (by decide) ?_
  refine pw_detV (As := [.int (nI (1)), .int (nI (9))]) e_Mod_block1_56 li_Mod_327 rfl (gO_get hnd (i := 0) rfl) (q_Mod_number hst hnd (nI 1) (nI 9) Z (gO_in hnd (fun _ z => z)) hw) rfl (by decide) (Nat.le_of_ble_eq_true rfl) rfl ?_
  refine pw_sameG hnd ?_
  refine pw_iastG (i := 29) e_Mod_block1_59 hnd (mo_x _ _) rfl (by omega) (by decide) ?_
  refine w_Mod_block1_60 hst hnd (u2 ((f_Mod_number (nI 1) (nI 9) Z).2) 54 b ((f_Mod_number (nI 1) (nI 9) Z).1)) b (GoI.uk (k := 54) (rw_number hw).1 (by decide)) (by omega) ?_
  rw [f_Mod_block1_47] at hk
  exact hk
noncomputable def f_Mod_block1_23  (Z : Nat → Nat → Int32) : (Nat → Nat → Int32) :=
  f_Mod_block1_47  (u2 ((f_Mod_named (nI 4) ((s_Mod_go Z) 100 66) (s_Mod_go Z)).2) 53 (pN Z 100 67) ((f_Mod_named (nI 4) ((s_Mod_go Z) 100 66) (s_Mod_go Z)).1)) (pN Z 100 67)
set_option maxRecDepth 4000 in
theorem w_Mod_block1_23 {g : GG} {Q : QT} {h : Hp} {kc ks : Nat} (hst : (gl g).stackTraces = false) {A : Nat → Nat} (hnd : (gK (moL g A)).Nodup)  (Z : Nat → Nat → Int32) (hw : GoI Z) (hb : Z 100 67 = nI (pN Z 100 67) ∧ pN Z 100 67 < 10) (hk : Q (.inl none) (ov h (gO (moL g A) (f_Mod_block1_23  Z)))) : PW g M_Mod_block1 4 kc ks Q 23 [.ref (A 100), .retAddr 0] [] (ov h (gO (moL g A) Z)) := by
  have hz0 := hw.1.2
  have hz1 := hw.2.1.2
  refine pw_aload_n e_Mod_block1_23 rfl ?_
  refine pw_detV (As := []) e_Mod_block1_24 li_Mod_315 rfl (gO_get hnd (i := 0) rfl) (qs_Mod_go hst hnd Z (gO_in hnd (fun _ z => z)) hw) rfl (by decide) (Nat.le_of_ble_eq_true rfl) rfl ?_
  refine pw_sameG hnd ?_
  refine pw_aload_n e_Mod_block1_27 rfl ?_
  refine pw_getf e_Mod_block1_28 fl_Mod_318 (gO_get hnd (i := 0) rfl) rfl ?_
  refine pw_eqst (congrArg (fun q => Value.int q :: []) (show _ = nI (pN Z 100 67) from (((go_s hw).2.1.2 67 (by unfold goK; decide)).trans hb.1))) ?_
  refine pw_istore_n (ls2 := [_, _]) e_Mod_block1_31 (by decide) rfl ?_
  refine pw_aload_n e_Mod_block1_32 rfl ?_
  refine pw_getf e_Mod_block1_33 fl_Mod_108 (gO_get hnd (i := 0) rfl) rfl ?_
  refine pw_iload_n e_Mod_block1_36 rfl ?_
  refine pw_aload_n e_Mod_block1_37 rfl ?_
  refine pw_iconst (v := nI 4) e_Mod_block1_38 (by decide) ?_
  refine pw_aload_n e_Mod_block1_39 rfl ?_
  refine pw_getf e_Mod_block1_40 fl_Mod_321 (gO_get hnd (i := 0) rfl) rfl ?_
  refine pw_detV (As := [.int (nI (4)), .int ((s_Mod_go Z) 100 66)]) e_Mod_block1_43 li_Mod_324 rfl (gO_get hnd (i := 0) rfl) (q_Mod_named hst hnd (nI 4) ((s_Mod_go Z) 100 66) (s_Mod_go Z) (gO_in hnd (fun _ z => z)) (go_s hw).1) rfl (by decide) (Nat.le_of_ble_eq_true rfl) rfl ?_
  refine pw_sameG hnd ?_
  refine pw_iastG (i := 28) e_Mod_block1_46 hnd (mo_x _ _) rfl (by omega) (by decide) ?_
  refine w_Mod_block1_47 hst hnd (u2 ((f_Mod_named (nI 4) ((s_Mod_go Z) 100 66) (s_Mod_go Z)).2) 53 (pN Z 100 67) ((f_Mod_named (nI 4) ((s_Mod_go Z) 100 66) (s_Mod_go Z)).1)) (pN Z 100 67) (GoI.uk (k := 53) (rw_named (go_s hw).1).1 (by decide)) (by omega) ?_
  rw [f_Mod_block1_23] at hk
  exact hk
noncomputable def f_Mod_block1  (Z : Nat → Nat → Int32) : (Nat → Nat → Int32) :=
  if 10 ≤ (Z 100 67) then (f_Mod_wants (nI 0) (nI 2) Z).2 else if ((f_Mod_wants (nI 1) (nI 2) Z).1) = 0 then (f_Mod_wants (nI 1) (nI 2) Z).2 else f_Mod_block1_23  ((f_Mod_wants (nI 1) (nI 2) Z).2)
set_option maxRecDepth 4000 in
theorem w_Mod_block1_0 {g : GG} {Q : QT} {h : Hp} {kc ks : Nat} (hst : (gl g).stackTraces = false) {A : Nat → Nat} (hnd : (gK (moL g A)).Nodup)  (Z : Nat → Nat → Int32) (hw : GoI Z) (hB : Z 100 67 = nI (pN Z 100 67) ∧ pN Z 100 67 ≤ 10) (hk : Q (.inl none) (ov h (gO (moL g A) (f_Mod_block1  Z)))) : PW g M_Mod_block1 4 kc ks Q 0 [.ref (A 100), .retAddr 0] [] (ov h (gO (moL g A) Z)) := by
  have hz0 := hw.1.2
  have hz1 := hw.2.1.2
  refine pw_aload_n e_Mod_block1_0 rfl ?_
  refine pw_aload_n e_Mod_block1_1 rfl ?_
  refine pw_getf e_Mod_block1_2 fl_Mod_318 (gO_get hnd (i := 0) rfl) rfl ?_
  refine pw_bipush (v := nI 10) e_Mod_block1_5 (by decide) ?_
  refine pw_icmp_ge (tgt := 14) e_Mod_block1_7 (by decide) (fun (H1 : 10 ≤ (Z 100 67)) => ?_) (fun (H1 : ¬ 10 ≤ (Z 100 67)) => ?_)
  · refine pw_iconst (v := nI 0) e_Mod_block1_14 (by decide) ?_
    refine pw_iconst (v := nI 2) e_Mod_block1_15 (by decide) ?_
    refine pw_detV (As := [.int (nI (0)), .int (nI (2))]) e_Mod_block1_16 li_Mod_308 rfl (gO_get hnd (i := 0) rfl) (q_Mod_wants hst hnd (nI 0) (nI 2) Z (gO_in hnd (fun _ z => z))) rfl (by decide) (Nat.le_of_ble_eq_true rfl) rfl ?_
    refine pw_sameG hnd ?_
    refine pw_if_ne (tgt := 23) e_Mod_block1_19 (by decide) (fun (H2 : ¬ ((f_Mod_wants (nI 0) (nI 2) Z).1) = 0) => ?_) (fun (H2 : ((f_Mod_wants (nI 0) (nI 2) Z).1) = 0) => ?_)
    · exact absurd H2 (fun q => (wt_of (by decide) q).1 rfl)
    · refine pw_vret e_Mod_block1_22 rfl ?_
      rw [f_Mod_block1, if_pos H1] at hk
      exact hk
  · refine pw_iconst (v := nI 1) e_Mod_block1_10 (by decide) ?_
    refine pw_goto (tgt := 15) e_Mod_block1_11 (by decide) ?_
    refine pw_iconst (v := nI 2) e_Mod_block1_15 (by decide) ?_
    refine pw_detV (As := [.int (nI (1)), .int (nI (2))]) e_Mod_block1_16 li_Mod_308 rfl (gO_get hnd (i := 0) rfl) (q_Mod_wants hst hnd (nI 1) (nI 2) Z (gO_in hnd (fun _ z => z))) rfl (by decide) (Nat.le_of_ble_eq_true rfl) rfl ?_
    refine pw_sameG hnd ?_
    refine pw_if_ne (tgt := 23) e_Mod_block1_19 (by decide) (fun (H3 : ¬ ((f_Mod_wants (nI 1) (nI 2) Z).1) = 0) => ?_) (fun (H3 : ((f_Mod_wants (nI 1) (nI 2) Z).1) = 0) => ?_)
    · refine w_Mod_block1_23 hst hnd ((f_Mod_wants (nI 1) (nI 2) Z).2) (g_wants hw) (nn.rw (by unfold goK; decide) (b67 hB H1) (by repeat (first | exact RW.self hw | apply RW.wt | apply RW.go | apply RW.number | apply RW.named | apply RW.oneOf))) ?_
      rw [f_Mod_block1, if_neg H1, if_neg H3] at hk
      exact hk
    · refine pw_vret e_Mod_block1_22 rfl ?_
      rw [f_Mod_block1, if_neg H1, if_pos H3] at hk
      exact hk
theorem q_Mod_block1 {g : GG} {h : Hp} (hst : (gl g).stackTraces = false) {A : Nat → Nat} (hnd : (gK (moL g A)).Nodup)  (Z : Nat → Nat → Int32) (hm : ∀ q ∈ gO (moL g A) Z, h q.1 = some q.2) (hw : GoI Z) (hB : Z 100 67 = nI (pN Z 100 67) ∧ pN Z 100 67 ≤ 10) : PM g M_Mod_block1 4 0 0 [.ref (A 100)] h (RetV none (ov h (gO (moL g A) (f_Mod_block1  Z)))) := by
  refine PM.of hst (by decide) rfl (fun v hv => ?_) (Nat.le_of_ble_eq_true rfl) ?_
  · simp only [List.mem_cons, List.not_mem_nil, or_false] at hv; rcases hv with rfl <;> rfl
  · have hq := w_Mod_block1_0 (g := g) (Q := RetV none (ov h (gO (moL g A) (f_Mod_block1  Z)))) (h := h) (kc := 0) (ks := 0) hst hnd Z hw hB ?_
    · rw [ov_self hm] at hq; exact hq
    · exact ⟨rfl, rfl⟩

