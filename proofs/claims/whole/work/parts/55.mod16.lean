/-! the reference: a text becomes the plan; bus (written by wip/whole/c_mod16.py) -/
def f_Mod_moves_2 (F : Nat → Int32) (n : Nat) : Nat → (Nat → Int32) → (Nat) → Nat → Int32
  | 0, c, _ => c
  | t + 1, c, k => if n ≤ k then c else f_Mod_moves_2 F n t (upd c k (F k)) (k + 1)
set_option maxRecDepth 4000 in
theorem w_Mod_moves_2 {g : GG} {Q : QT} {h : Hp} {kc ks : Nat} (hst : (gl g).stackTraces = false) {a b : Nat} (F : Nat → Int32) (n : Nat) (hn : n ≤ 12) (ha : ∀ e, va_up h b e a = some (aI g n F))  (t : Nat) : ∀ (c : Nat → Int32) (k : Nat) (hk9 : k ≤ n) (hlt : n - k < t) (hk : Q (.inl none) (va_up h b (some (aI g n (f_Mod_moves_2 F n t c k))))), PW g M_Mod_moves 0 kc ks Q 2 [.ref (a), .ref (b), .int (nI (k))] [] (va_up h b (some (aI g n (c)))) := by
  induction t with
  | zero => intro c k hk9 hlt _; exact absurd hlt (Nat.not_lt_zero _)
  | succ t ih =>
    intro c k hk9 hlt hk
    refine pw_iload_n e_Mod_moves_2 rfl ?_
    refine pw_aload_n e_Mod_moves_3 rfl ?_
    refine pw_alen (t0 := 0) e_Mod_moves_4 (ha _) rfl rfl ?_
    refine pw_icmp_geN (tgt := 20) e_Mod_moves_5 (by decide) (by omega) (by omega) (fun (H1 : n ≤ k) => ?_) (fun (H1 : k < n) => ?_)
    · refine pw_vret e_Mod_moves_20 rfl ?_
      rw [f_Mod_moves_2, if_pos H1] at hk
      exact hk
    · refine pw_aload_n e_Mod_moves_8 rfl ?_
      refine pw_iload_n e_Mod_moves_9 rfl ?_
      refine pw_aload_n e_Mod_moves_10 rfl ?_
      refine pw_iload_n e_Mod_moves_11 rfl ?_
      refine pw_ialdN e_Mod_moves_12 (ha _) (by omega) (by omega) ?_
      refine pw_iastU e_Mod_moves_13 (by omega) (by omega) ?_
      refine pw_iincN (ls2 := [_, _, _]) e_Mod_moves_14 rfl (by decide) rfl ?_
      refine pw_goto (tgt := 2) e_Mod_moves_17 (by decide) ?_
      refine ih (upd c k (F k)) (k + 1) (by omega) (by omega) ?_
      rw [f_Mod_moves_2, if_neg (Nat.not_le.mpr H1)] at hk
      exact hk
def f_Mod_moves (F : Nat → Int32) (n : Nat) (c : Nat → Int32) : Nat → Int32 :=
  f_Mod_moves_2 F n 13 c 0
set_option maxRecDepth 4000 in
theorem w_Mod_moves_0 {g : GG} {Q : QT} {h : Hp} {kc ks : Nat} (hst : (gl g).stackTraces = false) {a b : Nat} (F : Nat → Int32) (n : Nat) (hn : n ≤ 12) (ha : ∀ e, va_up h b e a = some (aI g n F))  (c : Nat → Int32) (hk : Q (.inl none) (va_up h b (some (aI g n (f_Mod_moves F n c))))) : PW g M_Mod_moves 0 kc ks Q 0 [.ref (a), .ref (b), .retAddr 0] [] (va_up h b (some (aI g n (c)))) := by
  refine pw_iconst (v := nI 0) e_Mod_moves_0 (by decide) ?_
  refine pw_istore_n (ls2 := [_, _, _]) e_Mod_moves_1 (by decide) rfl ?_
  refine w_Mod_moves_2 hst F n hn ha 13 c 0 (by omega) (by omega) ?_
  rw [f_Mod_moves] at hk
  exact hk
theorem q_Mod_moves {g : GG} {h : Hp} (hst : (gl g).stackTraces = false) {a b : Nat} (F : Nat → Int32) (n : Nat) (hn : n ≤ 12) (ha : ∀ e, va_up h b e a = some (aI g n F))  (c : Nat → Int32) (hm : h b = some (aI g n c)) : PM g M_Mod_moves 0 0 0 [.ref (a), .ref (b)] h (RetV none (va_up h b (some (aI g n (f_Mod_moves F n c))))) := by
  refine PM.of hst (by decide) rfl (fun v hv => ?_) (Nat.le_of_ble_eq_true rfl) ?_
  · simp only [List.mem_cons, List.not_mem_nil, or_false] at hv; rcases hv with rfl | rfl <;> rfl
  · have hq := w_Mod_moves_0 (g := g) (Q := RetV none (va_up h b (some (aI g n (f_Mod_moves F n c))))) (h := h) (kc := 0) (ks := 0) (b := b) hst F n hn ha c ?_
    · rw [up_self hm] at hq; exact hq
    · exact ⟨rfl, rfl⟩

theorem mv_2 {F : Nat → Int32} {n : Nat} : ∀ (t : Nat) (c : Nat → Int32) (k : Nat), k ≤ n → n - k < t → f_Mod_moves_2 F n t c k = fun j => if k ≤ j ∧ j < n then F j else c j := by
  intro t
  induction t with
  | zero => intro c k _ h; omega
  | succ t ih =>
    intro c k hk ht
    rw [f_Mod_moves_2]
    by_cases q : n ≤ k
    · rw [if_pos q]; funext j; rw [if_neg (by omega)]
    · rw [if_neg q, ih _ _ (by omega) (by omega)]
      funext j
      by_cases e : j = k
      · rw [if_neg (by omega), if_pos (by omega), e]; exact if_pos rfl
      · by_cases e2 : k + 1 ≤ j ∧ j < n
        · rw [if_pos e2, if_pos (by omega)]
        · rw [if_neg e2, if_neg (by omega)]; exact if_neg e
theorem mv_eq {F c : Nat → Int32} {n : Nat} (hn : n ≤ 12) : f_Mod_moves F n c = fun j => if j < n then F j else c j := by
  rw [f_Mod_moves, mv_2 13 c 0 (Nat.zero_le _) (by omega)]
  funext j
  simp only [Nat.zero_le, true_and]
/-- a row moved over another one -/
def mvZ (Z : Nat → Nat → Int32) (a b n : Nat) : Nat → Nat → Int32 := va_up Z b (f_Mod_moves (Z a) n (Z b))
def bec_172 (Z : Nat → Nat → Int32) : Nat → Nat → Int32 := mvZ Z 65 13 4
def bec_161 (Z : Nat → Nat → Int32) : Nat → Nat → Int32 := bec_172 (mvZ Z 64 12 4)
def bec_150 (Z : Nat → Nat → Int32) : Nat → Nat → Int32 := bec_161 (mvZ Z 63 11 4)
def bec_139 (Z : Nat → Nat → Int32) : Nat → Nat → Int32 := bec_150 (mvZ Z 62 10 12)
def bec_128 (Z : Nat → Nat → Int32) : Nat → Nat → Int32 := bec_139 (mvZ Z 61 9 12)
def bec_117 (Z : Nat → Nat → Int32) : Nat → Nat → Int32 := bec_128 (mvZ Z 60 8 12)
def bec_106 (Z : Nat → Nat → Int32) : Nat → Nat → Int32 := bec_117 (mvZ Z 59 7 10)
def bec_95 (Z : Nat → Nat → Int32) : Nat → Nat → Int32 := bec_106 (mvZ Z 58 6 10)
def bec_84 (Z : Nat → Nat → Int32) : Nat → Nat → Int32 := bec_95 (mvZ Z 57 5 10)
def bec_73 (Z : Nat → Nat → Int32) : Nat → Nat → Int32 := bec_84 (mvZ Z 56 4 10)
def bec_62 (Z : Nat → Nat → Int32) : Nat → Nat → Int32 := bec_73 (mvZ Z 55 3 10)
def bec_51 (Z : Nat → Nat → Int32) : Nat → Nat → Int32 := bec_62 (mvZ Z 54 2 10)
def bec_40 (Z : Nat → Nat → Int32) : Nat → Nat → Int32 := bec_51 (mvZ Z 53 1 10)
def becZ (Z : Nat → Nat → Int32) : Nat → Nat → Int32 := bec_40 (u2 (u2 (u2 (u2 (u2 Z 100 19 (Z 100 66)) 100 20 (Z 100 67)) 100 21 (Z 100 68)) 100 22 (Z 100 69)) 100 23 (Z 100 70))
section
variable {Z : Nat → Nat → Int32}
theorem be_1 : becZ Z 1 = fun j => if j < 10 then Z 53 j else Z 1 j := (show becZ Z 1 = f_Mod_moves (Z 53) 10 (Z 1) from rfl).trans (mv_eq (by decide))
theorem be_2 : becZ Z 2 = fun j => if j < 10 then Z 54 j else Z 2 j := (show becZ Z 2 = f_Mod_moves (Z 54) 10 (Z 2) from rfl).trans (mv_eq (by decide))
theorem be_3 : becZ Z 3 = fun j => if j < 10 then Z 55 j else Z 3 j := (show becZ Z 3 = f_Mod_moves (Z 55) 10 (Z 3) from rfl).trans (mv_eq (by decide))
theorem be_4 : becZ Z 4 = fun j => if j < 10 then Z 56 j else Z 4 j := (show becZ Z 4 = f_Mod_moves (Z 56) 10 (Z 4) from rfl).trans (mv_eq (by decide))
theorem be_5 : becZ Z 5 = fun j => if j < 10 then Z 57 j else Z 5 j := (show becZ Z 5 = f_Mod_moves (Z 57) 10 (Z 5) from rfl).trans (mv_eq (by decide))
theorem be_6 : becZ Z 6 = fun j => if j < 10 then Z 58 j else Z 6 j := (show becZ Z 6 = f_Mod_moves (Z 58) 10 (Z 6) from rfl).trans (mv_eq (by decide))
theorem be_7 : becZ Z 7 = fun j => if j < 10 then Z 59 j else Z 7 j := (show becZ Z 7 = f_Mod_moves (Z 59) 10 (Z 7) from rfl).trans (mv_eq (by decide))
theorem be_8 : becZ Z 8 = fun j => if j < 12 then Z 60 j else Z 8 j := (show becZ Z 8 = f_Mod_moves (Z 60) 12 (Z 8) from rfl).trans (mv_eq (by decide))
theorem be_9 : becZ Z 9 = fun j => if j < 12 then Z 61 j else Z 9 j := (show becZ Z 9 = f_Mod_moves (Z 61) 12 (Z 9) from rfl).trans (mv_eq (by decide))
theorem be_10 : becZ Z 10 = fun j => if j < 12 then Z 62 j else Z 10 j := (show becZ Z 10 = f_Mod_moves (Z 62) 12 (Z 10) from rfl).trans (mv_eq (by decide))
theorem be_11 : becZ Z 11 = fun j => if j < 4 then Z 63 j else Z 11 j := (show becZ Z 11 = f_Mod_moves (Z 63) 4 (Z 11) from rfl).trans (mv_eq (by decide))
theorem be_12 : becZ Z 12 = fun j => if j < 4 then Z 64 j else Z 12 j := (show becZ Z 12 = f_Mod_moves (Z 64) 4 (Z 12) from rfl).trans (mv_eq (by decide))
theorem be_13 : becZ Z 13 = fun j => if j < 4 then Z 65 j else Z 13 j := (show becZ Z 13 = f_Mod_moves (Z 65) 4 (Z 13) from rfl).trans (mv_eq (by decide))
theorem be_34 : becZ Z 34 = Z 34 := rfl
theorem be_0 : becZ Z 0 = Z 0 := rfl
theorem be_19 : becZ Z 100 19 = Z 100 66 := rfl
theorem be_20 : becZ Z 100 20 = Z 100 67 := rfl
theorem be_21 : becZ Z 100 21 = Z 100 68 := rfl
end
theorem be_N {Y Z : Nat → Nat → Int32} {a b n K : Nat} (e : Y b = fun j => if j < n then Z a j else Z b j) (h1 : iNr (Z a) K) (h2 : isN Z b K) : isN Y b K := by
  intro j
  unfold pN
  rw [e]
  dsimp only
  by_cases c : j < n
  · rw [if_pos c]; exact h1 j
  · rw [if_neg c]; exact h2 j
theorem iNr.wide {a : Nat → Int32} {K K' : Nat} (h : iNr a K) (hk : K ≤ K') : iNr a K' := fun i => ⟨(h i).1, Nat.lt_of_lt_of_le (h i).2 hk⟩
theorem be_wf {Z : Nat → Nat → Int32} (hw : wfM Z) (h2 : isN Z 2 60) (hR : RdM Z) : wfM (becZ Z) ∧ PlM (becZ Z) := by
  obtain ⟨-, ⟨a0, a1, a2⟩, ⟨b0, b1, b2, b3⟩, ⟨c0, c1, c2⟩, d, l, r⟩ := hR
  have p20 : pN (becZ Z) 100 20 = pN Z 100 67 := rfl
  have p21 : pN (becZ Z) 100 21 = pN Z 100 68 := rfl
  have p8 : ∀ j, j < pN Z 100 68 → pN (becZ Z) 8 j = pN Z 60 j := fun j hj => by
    unfold pN; rw [be_8]; dsimp only; rw [if_pos (by have : pN Z 100 68 < 13 := a2.2; omega)]
  have p9 : ∀ j, j < pN Z 100 68 → pN (becZ Z) 9 j = pN Z 61 j := fun j hj => by
    unfold pN; rw [be_9]; dsimp only; rw [if_pos (by have : pN Z 100 68 < 13 := a2.2; omega)]
  refine ⟨⟨be_N be_3 b2 hw.kind, be_N be_1 b0 hw.dev, be_N be_8 c0 hw.frm, be_N be_9 c1 hw.to, be_N be_10 c2 hw.whr, hw.tak, be_N be_4 b3 hw.one, a1, a2, a0, fun s hs h1 => ?_⟩, be_N be_2 (b1.wide (by decide)) h2, ?_, fun j hj => ?_⟩
  · rw [be_11] at h1
    rw [be_13]
    dsimp only at h1 ⊢
    rw [if_pos hs] at h1 ⊢
    exact d s hs h1
  · obtain ⟨r, hr⟩ := r
    refine ⟨r, fun j hj => ?_⟩
    rw [p21] at hj
    rw [p8 j hj, p9 j hj]; exact hr j hj
  · rw [p21] at hj
    rw [p8 j hj, p9 j hj, p20]; exact l j hj
noncomputable def f_Mod_becomes_183  (Z : Nat → Nat → Int32) : (Nat → Nat → Int32) :=
  u2 (u2 (u2 (u2 (s_Mod_begins (s_Mod_laysCycle Z)) 100 30 0) 100 26 0) 100 25 0) 100 24 0
set_option maxRecDepth 4000 in
theorem w_Mod_becomes_183 {g : GG} {Q : QT} {h : Hp} {kc ks : Nat} (hst : (gl g).stackTraces = false) {A : Nat → Nat} (hnd : (gK (moL g A)).Nodup)  (Z : Nat → Nat → Int32) (hw : wfM Z) (hp : PlM Z) (hk : Q (.inl none) (ov h (gO (moL g A) (f_Mod_becomes_183  Z)))) : PW g M_Mod_becomes 4 kc ks Q 183 [.ref (A 100)] [] (ov h (gO (moL g A) Z)) := by
  refine pw_aload_n e_Mod_becomes_183 rfl ?_
  refine pw_detV (As := []) e_Mod_becomes_184 li_Mod_153 rfl (gO_get hnd (i := 0) rfl) (qs_Mod_laysCycle hst hnd Z (gO_in hnd (fun _ z => z)) hw hp) rfl (by decide) (Nat.le_of_ble_eq_true rfl) rfl ?_
  refine pw_sameG hnd ?_
  refine pw_aload_n e_Mod_becomes_187 rfl ?_
  refine pw_detV (As := []) e_Mod_becomes_188 li_Mod_156 rfl (gO_get hnd (i := 0) rfl) (qs_Mod_begins hst hnd (s_Mod_laysCycle Z) (gO_in hnd (fun _ z => z)) (lay_s hw hp).1) rfl (by decide) (Nat.le_of_ble_eq_true rfl) rfl ?_
  refine pw_sameG hnd ?_
  refine pw_aload_n e_Mod_becomes_191 rfl ?_
  refine pw_aload_n e_Mod_becomes_192 rfl ?_
  refine pw_aload_n e_Mod_becomes_193 rfl ?_
  refine pw_aload_n e_Mod_becomes_194 rfl ?_
  refine pw_iconst (v := nI 0) e_Mod_becomes_195 (by decide) ?_
  refine pw_dup_x1 e_Mod_becomes_196 rfl rfl ?_
  refine pw_putGi (i := 0) (ps := 30) (x := 0) e_Mod_becomes_197 fp_Mod_385 hnd (mo_x _ _) rfl (Nat.le_of_ble_eq_true rfl) rfl rfl (fun _ _ => rfl) ?_
  refine pw_dup_x1 e_Mod_becomes_200 rfl rfl ?_
  refine pw_putGi (i := 0) (ps := 26) (x := 0) e_Mod_becomes_201 fp_Mod_388 hnd (mo_x _ _) rfl (Nat.le_of_ble_eq_true rfl) rfl rfl (fun _ _ => rfl) ?_
  refine pw_dup_x1 e_Mod_becomes_204 rfl rfl ?_
  refine pw_putGi (i := 0) (ps := 25) (x := 0) e_Mod_becomes_205 fp_Mod_391 hnd (mo_x _ _) rfl (Nat.le_of_ble_eq_true rfl) rfl rfl (fun _ _ => rfl) ?_
  refine pw_putGi (i := 0) (ps := 24) (x := 0) e_Mod_becomes_208 fp_Mod_394 hnd (mo_x _ _) rfl (Nat.le_of_ble_eq_true rfl) rfl rfl (fun _ _ => rfl) ?_
  refine pw_vret e_Mod_becomes_211 rfl ?_
  rw [f_Mod_becomes_183] at hk
  exact hk
noncomputable def f_Mod_becomes_172  (Z : Nat → Nat → Int32) : (Nat → Nat → Int32) :=
  f_Mod_becomes_183  (va_up Z 13 (f_Mod_moves (Z 65) 4 (Z 13)))
set_option maxRecDepth 4000 in
theorem w_Mod_becomes_172 {g : GG} {Q : QT} {h : Hp} {kc ks : Nat} (hst : (gl g).stackTraces = false) {A : Nat → Nat} (hnd : (gK (moL g A)).Nodup)  (Z : Nat → Nat → Int32) (hX : wfM (bec_172 Z) ∧ PlM (bec_172 Z)) (hk : Q (.inl none) (ov h (gO (moL g A) (f_Mod_becomes_172  Z)))) : PW g M_Mod_becomes 4 kc ks Q 172 [.ref (A 100)] [] (ov h (gO (moL g A) Z)) := by
  refine pw_aload_n e_Mod_becomes_172 rfl ?_
  refine pw_getf e_Mod_becomes_173 fl_Mod_144 (gO_get hnd (i := 0) rfl) rfl ?_
  refine pw_aload_n e_Mod_becomes_176 rfl ?_
  refine pw_getf e_Mod_becomes_177 fl_Mod_49 (gO_get hnd (i := 0) rfl) rfl ?_
  refine pw_detS (As := [.ref (A 65), .ref (A 13)]) e_Mod_becomes_180 li_Mod_381 (q_Mod_moves hst (Z 65) 4 (by decide) (fun e => bs_ne hnd (i := 40) (j := 14) rfl rfl (by decide) e) (Z 13) (gO_get hnd (i := 14) rfl)) rfl (by decide) (Nat.le_of_ble_eq_true rfl) rfl ?_
  refine pw_upG (i := 14) hnd (mo_x _ _) rfl rfl ?_
  refine w_Mod_becomes_183 hst hnd (va_up Z 13 (f_Mod_moves (Z 65) 4 (Z 13))) (by exact hX.1) (by exact hX.2) ?_
  rw [f_Mod_becomes_172] at hk
  exact hk
noncomputable def f_Mod_becomes_161  (Z : Nat → Nat → Int32) : (Nat → Nat → Int32) :=
  f_Mod_becomes_172  (va_up Z 12 (f_Mod_moves (Z 64) 4 (Z 12)))
set_option maxRecDepth 4000 in
theorem w_Mod_becomes_161 {g : GG} {Q : QT} {h : Hp} {kc ks : Nat} (hst : (gl g).stackTraces = false) {A : Nat → Nat} (hnd : (gK (moL g A)).Nodup)  (Z : Nat → Nat → Int32) (hX : wfM (bec_161 Z) ∧ PlM (bec_161 Z)) (hk : Q (.inl none) (ov h (gO (moL g A) (f_Mod_becomes_161  Z)))) : PW g M_Mod_becomes 4 kc ks Q 161 [.ref (A 100)] [] (ov h (gO (moL g A) Z)) := by
  refine pw_aload_n e_Mod_becomes_161 rfl ?_
  refine pw_getf e_Mod_becomes_162 fl_Mod_141 (gO_get hnd (i := 0) rfl) rfl ?_
  refine pw_aload_n e_Mod_becomes_165 rfl ?_
  refine pw_getf e_Mod_becomes_166 fl_Mod_46 (gO_get hnd (i := 0) rfl) rfl ?_
  refine pw_detS (As := [.ref (A 64), .ref (A 12)]) e_Mod_becomes_169 li_Mod_381 (q_Mod_moves hst (Z 64) 4 (by decide) (fun e => bs_ne hnd (i := 39) (j := 13) rfl rfl (by decide) e) (Z 12) (gO_get hnd (i := 13) rfl)) rfl (by decide) (Nat.le_of_ble_eq_true rfl) rfl ?_
  refine pw_upG (i := 13) hnd (mo_x _ _) rfl rfl ?_
  refine w_Mod_becomes_172 hst hnd (va_up Z 12 (f_Mod_moves (Z 64) 4 (Z 12))) (by exact hX) ?_
  rw [f_Mod_becomes_161] at hk
  exact hk
noncomputable def f_Mod_becomes_150  (Z : Nat → Nat → Int32) : (Nat → Nat → Int32) :=
  f_Mod_becomes_161  (va_up Z 11 (f_Mod_moves (Z 63) 4 (Z 11)))
set_option maxRecDepth 4000 in
theorem w_Mod_becomes_150 {g : GG} {Q : QT} {h : Hp} {kc ks : Nat} (hst : (gl g).stackTraces = false) {A : Nat → Nat} (hnd : (gK (moL g A)).Nodup)  (Z : Nat → Nat → Int32) (hX : wfM (bec_150 Z) ∧ PlM (bec_150 Z)) (hk : Q (.inl none) (ov h (gO (moL g A) (f_Mod_becomes_150  Z)))) : PW g M_Mod_becomes 4 kc ks Q 150 [.ref (A 100)] [] (ov h (gO (moL g A) Z)) := by
  refine pw_aload_n e_Mod_becomes_150 rfl ?_
  refine pw_getf e_Mod_becomes_151 fl_Mod_138 (gO_get hnd (i := 0) rfl) rfl ?_
  refine pw_aload_n e_Mod_becomes_154 rfl ?_
  refine pw_getf e_Mod_becomes_155 fl_Mod_43 (gO_get hnd (i := 0) rfl) rfl ?_
  refine pw_detS (As := [.ref (A 63), .ref (A 11)]) e_Mod_becomes_158 li_Mod_381 (q_Mod_moves hst (Z 63) 4 (by decide) (fun e => bs_ne hnd (i := 38) (j := 12) rfl rfl (by decide) e) (Z 11) (gO_get hnd (i := 12) rfl)) rfl (by decide) (Nat.le_of_ble_eq_true rfl) rfl ?_
  refine pw_upG (i := 12) hnd (mo_x _ _) rfl rfl ?_
  refine w_Mod_becomes_161 hst hnd (va_up Z 11 (f_Mod_moves (Z 63) 4 (Z 11))) (by exact hX) ?_
  rw [f_Mod_becomes_150] at hk
  exact hk
noncomputable def f_Mod_becomes_139  (Z : Nat → Nat → Int32) : (Nat → Nat → Int32) :=
  f_Mod_becomes_150  (va_up Z 10 (f_Mod_moves (Z 62) 12 (Z 10)))
set_option maxRecDepth 4000 in
theorem w_Mod_becomes_139 {g : GG} {Q : QT} {h : Hp} {kc ks : Nat} (hst : (gl g).stackTraces = false) {A : Nat → Nat} (hnd : (gK (moL g A)).Nodup)  (Z : Nat → Nat → Int32) (hX : wfM (bec_139 Z) ∧ PlM (bec_139 Z)) (hk : Q (.inl none) (ov h (gO (moL g A) (f_Mod_becomes_139  Z)))) : PW g M_Mod_becomes 4 kc ks Q 139 [.ref (A 100)] [] (ov h (gO (moL g A) Z)) := by
  refine pw_aload_n e_Mod_becomes_139 rfl ?_
  refine pw_getf e_Mod_becomes_140 fl_Mod_135 (gO_get hnd (i := 0) rfl) rfl ?_
  refine pw_aload_n e_Mod_becomes_143 rfl ?_
  refine pw_getf e_Mod_becomes_144 fl_Mod_40 (gO_get hnd (i := 0) rfl) rfl ?_
  refine pw_detS (As := [.ref (A 62), .ref (A 10)]) e_Mod_becomes_147 li_Mod_381 (q_Mod_moves hst (Z 62) 12 (by decide) (fun e => bs_ne hnd (i := 37) (j := 11) rfl rfl (by decide) e) (Z 10) (gO_get hnd (i := 11) rfl)) rfl (by decide) (Nat.le_of_ble_eq_true rfl) rfl ?_
  refine pw_upG (i := 11) hnd (mo_x _ _) rfl rfl ?_
  refine w_Mod_becomes_150 hst hnd (va_up Z 10 (f_Mod_moves (Z 62) 12 (Z 10))) (by exact hX) ?_
  rw [f_Mod_becomes_139] at hk
  exact hk
noncomputable def f_Mod_becomes_128  (Z : Nat → Nat → Int32) : (Nat → Nat → Int32) :=
  f_Mod_becomes_139  (va_up Z 9 (f_Mod_moves (Z 61) 12 (Z 9)))
set_option maxRecDepth 4000 in
theorem w_Mod_becomes_128 {g : GG} {Q : QT} {h : Hp} {kc ks : Nat} (hst : (gl g).stackTraces = false) {A : Nat → Nat} (hnd : (gK (moL g A)).Nodup)  (Z : Nat → Nat → Int32) (hX : wfM (bec_128 Z) ∧ PlM (bec_128 Z)) (hk : Q (.inl none) (ov h (gO (moL g A) (f_Mod_becomes_128  Z)))) : PW g M_Mod_becomes 4 kc ks Q 128 [.ref (A 100)] [] (ov h (gO (moL g A) Z)) := by
  refine pw_aload_n e_Mod_becomes_128 rfl ?_
  refine pw_getf e_Mod_becomes_129 fl_Mod_132 (gO_get hnd (i := 0) rfl) rfl ?_
  refine pw_aload_n e_Mod_becomes_132 rfl ?_
  refine pw_getf e_Mod_becomes_133 fl_Mod_37 (gO_get hnd (i := 0) rfl) rfl ?_
  refine pw_detS (As := [.ref (A 61), .ref (A 9)]) e_Mod_becomes_136 li_Mod_381 (q_Mod_moves hst (Z 61) 12 (by decide) (fun e => bs_ne hnd (i := 36) (j := 10) rfl rfl (by decide) e) (Z 9) (gO_get hnd (i := 10) rfl)) rfl (by decide) (Nat.le_of_ble_eq_true rfl) rfl ?_
  refine pw_upG (i := 10) hnd (mo_x _ _) rfl rfl ?_
  refine w_Mod_becomes_139 hst hnd (va_up Z 9 (f_Mod_moves (Z 61) 12 (Z 9))) (by exact hX) ?_
  rw [f_Mod_becomes_128] at hk
  exact hk
noncomputable def f_Mod_becomes_117  (Z : Nat → Nat → Int32) : (Nat → Nat → Int32) :=
  f_Mod_becomes_128  (va_up Z 8 (f_Mod_moves (Z 60) 12 (Z 8)))
set_option maxRecDepth 4000 in
theorem w_Mod_becomes_117 {g : GG} {Q : QT} {h : Hp} {kc ks : Nat} (hst : (gl g).stackTraces = false) {A : Nat → Nat} (hnd : (gK (moL g A)).Nodup)  (Z : Nat → Nat → Int32) (hX : wfM (bec_117 Z) ∧ PlM (bec_117 Z)) (hk : Q (.inl none) (ov h (gO (moL g A) (f_Mod_becomes_117  Z)))) : PW g M_Mod_becomes 4 kc ks Q 117 [.ref (A 100)] [] (ov h (gO (moL g A) Z)) := by
  refine pw_aload_n e_Mod_becomes_117 rfl ?_
  refine pw_getf e_Mod_becomes_118 fl_Mod_129 (gO_get hnd (i := 0) rfl) rfl ?_
  refine pw_aload_n e_Mod_becomes_121 rfl ?_
  refine pw_getf e_Mod_becomes_122 fl_Mod_34 (gO_get hnd (i := 0) rfl) rfl ?_
  refine pw_detS (As := [.ref (A 60), .ref (A 8)]) e_Mod_becomes_125 li_Mod_381 (q_Mod_moves hst (Z 60) 12 (by decide) (fun e => bs_ne hnd (i := 35) (j := 9) rfl rfl (by decide) e) (Z 8) (gO_get hnd (i := 9) rfl)) rfl (by decide) (Nat.le_of_ble_eq_true rfl) rfl ?_
  refine pw_upG (i := 9) hnd (mo_x _ _) rfl rfl ?_
  refine w_Mod_becomes_128 hst hnd (va_up Z 8 (f_Mod_moves (Z 60) 12 (Z 8))) (by exact hX) ?_
  rw [f_Mod_becomes_117] at hk
  exact hk
noncomputable def f_Mod_becomes_106  (Z : Nat → Nat → Int32) : (Nat → Nat → Int32) :=
  f_Mod_becomes_117  (va_up Z 7 (f_Mod_moves (Z 59) 10 (Z 7)))
set_option maxRecDepth 4000 in
theorem w_Mod_becomes_106 {g : GG} {Q : QT} {h : Hp} {kc ks : Nat} (hst : (gl g).stackTraces = false) {A : Nat → Nat} (hnd : (gK (moL g A)).Nodup)  (Z : Nat → Nat → Int32) (hX : wfM (bec_106 Z) ∧ PlM (bec_106 Z)) (hk : Q (.inl none) (ov h (gO (moL g A) (f_Mod_becomes_106  Z)))) : PW g M_Mod_becomes 4 kc ks Q 106 [.ref (A 100)] [] (ov h (gO (moL g A) Z)) := by
  refine pw_aload_n e_Mod_becomes_106 rfl ?_
  refine pw_getf e_Mod_becomes_107 fl_Mod_126 (gO_get hnd (i := 0) rfl) rfl ?_
  refine pw_aload_n e_Mod_becomes_110 rfl ?_
  refine pw_getf e_Mod_becomes_111 fl_Mod_31 (gO_get hnd (i := 0) rfl) rfl ?_
  refine pw_detS (As := [.ref (A 59), .ref (A 7)]) e_Mod_becomes_114 li_Mod_381 (q_Mod_moves hst (Z 59) 10 (by decide) (fun e => bs_ne hnd (i := 34) (j := 8) rfl rfl (by decide) e) (Z 7) (gO_get hnd (i := 8) rfl)) rfl (by decide) (Nat.le_of_ble_eq_true rfl) rfl ?_
  refine pw_upG (i := 8) hnd (mo_x _ _) rfl rfl ?_
  refine w_Mod_becomes_117 hst hnd (va_up Z 7 (f_Mod_moves (Z 59) 10 (Z 7))) (by exact hX) ?_
  rw [f_Mod_becomes_106] at hk
  exact hk
noncomputable def f_Mod_becomes_95  (Z : Nat → Nat → Int32) : (Nat → Nat → Int32) :=
  f_Mod_becomes_106  (va_up Z 6 (f_Mod_moves (Z 58) 10 (Z 6)))
set_option maxRecDepth 4000 in
theorem w_Mod_becomes_95 {g : GG} {Q : QT} {h : Hp} {kc ks : Nat} (hst : (gl g).stackTraces = false) {A : Nat → Nat} (hnd : (gK (moL g A)).Nodup)  (Z : Nat → Nat → Int32) (hX : wfM (bec_95 Z) ∧ PlM (bec_95 Z)) (hk : Q (.inl none) (ov h (gO (moL g A) (f_Mod_becomes_95  Z)))) : PW g M_Mod_becomes 4 kc ks Q 95 [.ref (A 100)] [] (ov h (gO (moL g A) Z)) := by
  refine pw_aload_n e_Mod_becomes_95 rfl ?_
  refine pw_getf e_Mod_becomes_96 fl_Mod_123 (gO_get hnd (i := 0) rfl) rfl ?_
  refine pw_aload_n e_Mod_becomes_99 rfl ?_
  refine pw_getf e_Mod_becomes_100 fl_Mod_28 (gO_get hnd (i := 0) rfl) rfl ?_
  refine pw_detS (As := [.ref (A 58), .ref (A 6)]) e_Mod_becomes_103 li_Mod_381 (q_Mod_moves hst (Z 58) 10 (by decide) (fun e => bs_ne hnd (i := 33) (j := 7) rfl rfl (by decide) e) (Z 6) (gO_get hnd (i := 7) rfl)) rfl (by decide) (Nat.le_of_ble_eq_true rfl) rfl ?_
  refine pw_upG (i := 7) hnd (mo_x _ _) rfl rfl ?_
  refine w_Mod_becomes_106 hst hnd (va_up Z 6 (f_Mod_moves (Z 58) 10 (Z 6))) (by exact hX) ?_
  rw [f_Mod_becomes_95] at hk
  exact hk
noncomputable def f_Mod_becomes_84  (Z : Nat → Nat → Int32) : (Nat → Nat → Int32) :=
  f_Mod_becomes_95  (va_up Z 5 (f_Mod_moves (Z 57) 10 (Z 5)))
set_option maxRecDepth 4000 in
theorem w_Mod_becomes_84 {g : GG} {Q : QT} {h : Hp} {kc ks : Nat} (hst : (gl g).stackTraces = false) {A : Nat → Nat} (hnd : (gK (moL g A)).Nodup)  (Z : Nat → Nat → Int32) (hX : wfM (bec_84 Z) ∧ PlM (bec_84 Z)) (hk : Q (.inl none) (ov h (gO (moL g A) (f_Mod_becomes_84  Z)))) : PW g M_Mod_becomes 4 kc ks Q 84 [.ref (A 100)] [] (ov h (gO (moL g A) Z)) := by
  refine pw_aload_n e_Mod_becomes_84 rfl ?_
  refine pw_getf e_Mod_becomes_85 fl_Mod_120 (gO_get hnd (i := 0) rfl) rfl ?_
  refine pw_aload_n e_Mod_becomes_88 rfl ?_
  refine pw_getf e_Mod_becomes_89 fl_Mod_25 (gO_get hnd (i := 0) rfl) rfl ?_
  refine pw_detS (As := [.ref (A 57), .ref (A 5)]) e_Mod_becomes_92 li_Mod_381 (q_Mod_moves hst (Z 57) 10 (by decide) (fun e => bs_ne hnd (i := 32) (j := 6) rfl rfl (by decide) e) (Z 5) (gO_get hnd (i := 6) rfl)) rfl (by decide) (Nat.le_of_ble_eq_true rfl) rfl ?_
  refine pw_upG (i := 6) hnd (mo_x _ _) rfl rfl ?_
  refine w_Mod_becomes_95 hst hnd (va_up Z 5 (f_Mod_moves (Z 57) 10 (Z 5))) (by exact hX) ?_
  rw [f_Mod_becomes_84] at hk
  exact hk
noncomputable def f_Mod_becomes_73  (Z : Nat → Nat → Int32) : (Nat → Nat → Int32) :=
  f_Mod_becomes_84  (va_up Z 4 (f_Mod_moves (Z 56) 10 (Z 4)))
set_option maxRecDepth 4000 in
theorem w_Mod_becomes_73 {g : GG} {Q : QT} {h : Hp} {kc ks : Nat} (hst : (gl g).stackTraces = false) {A : Nat → Nat} (hnd : (gK (moL g A)).Nodup)  (Z : Nat → Nat → Int32) (hX : wfM (bec_73 Z) ∧ PlM (bec_73 Z)) (hk : Q (.inl none) (ov h (gO (moL g A) (f_Mod_becomes_73  Z)))) : PW g M_Mod_becomes 4 kc ks Q 73 [.ref (A 100)] [] (ov h (gO (moL g A) Z)) := by
  refine pw_aload_n e_Mod_becomes_73 rfl ?_
  refine pw_getf e_Mod_becomes_74 fl_Mod_117 (gO_get hnd (i := 0) rfl) rfl ?_
  refine pw_aload_n e_Mod_becomes_77 rfl ?_
  refine pw_getf e_Mod_becomes_78 fl_Mod_22 (gO_get hnd (i := 0) rfl) rfl ?_
  refine pw_detS (As := [.ref (A 56), .ref (A 4)]) e_Mod_becomes_81 li_Mod_381 (q_Mod_moves hst (Z 56) 10 (by decide) (fun e => bs_ne hnd (i := 31) (j := 5) rfl rfl (by decide) e) (Z 4) (gO_get hnd (i := 5) rfl)) rfl (by decide) (Nat.le_of_ble_eq_true rfl) rfl ?_
  refine pw_upG (i := 5) hnd (mo_x _ _) rfl rfl ?_
  refine w_Mod_becomes_84 hst hnd (va_up Z 4 (f_Mod_moves (Z 56) 10 (Z 4))) (by exact hX) ?_
  rw [f_Mod_becomes_73] at hk
  exact hk
noncomputable def f_Mod_becomes_62  (Z : Nat → Nat → Int32) : (Nat → Nat → Int32) :=
  f_Mod_becomes_73  (va_up Z 3 (f_Mod_moves (Z 55) 10 (Z 3)))
set_option maxRecDepth 4000 in
theorem w_Mod_becomes_62 {g : GG} {Q : QT} {h : Hp} {kc ks : Nat} (hst : (gl g).stackTraces = false) {A : Nat → Nat} (hnd : (gK (moL g A)).Nodup)  (Z : Nat → Nat → Int32) (hX : wfM (bec_62 Z) ∧ PlM (bec_62 Z)) (hk : Q (.inl none) (ov h (gO (moL g A) (f_Mod_becomes_62  Z)))) : PW g M_Mod_becomes 4 kc ks Q 62 [.ref (A 100)] [] (ov h (gO (moL g A) Z)) := by
  refine pw_aload_n e_Mod_becomes_62 rfl ?_
  refine pw_getf e_Mod_becomes_63 fl_Mod_114 (gO_get hnd (i := 0) rfl) rfl ?_
  refine pw_aload_n e_Mod_becomes_66 rfl ?_
  refine pw_getf e_Mod_becomes_67 fl_Mod_19 (gO_get hnd (i := 0) rfl) rfl ?_
  refine pw_detS (As := [.ref (A 55), .ref (A 3)]) e_Mod_becomes_70 li_Mod_381 (q_Mod_moves hst (Z 55) 10 (by decide) (fun e => bs_ne hnd (i := 30) (j := 4) rfl rfl (by decide) e) (Z 3) (gO_get hnd (i := 4) rfl)) rfl (by decide) (Nat.le_of_ble_eq_true rfl) rfl ?_
  refine pw_upG (i := 4) hnd (mo_x _ _) rfl rfl ?_
  refine w_Mod_becomes_73 hst hnd (va_up Z 3 (f_Mod_moves (Z 55) 10 (Z 3))) (by exact hX) ?_
  rw [f_Mod_becomes_62] at hk
  exact hk
noncomputable def f_Mod_becomes_51  (Z : Nat → Nat → Int32) : (Nat → Nat → Int32) :=
  f_Mod_becomes_62  (va_up Z 2 (f_Mod_moves (Z 54) 10 (Z 2)))
set_option maxRecDepth 4000 in
theorem w_Mod_becomes_51 {g : GG} {Q : QT} {h : Hp} {kc ks : Nat} (hst : (gl g).stackTraces = false) {A : Nat → Nat} (hnd : (gK (moL g A)).Nodup)  (Z : Nat → Nat → Int32) (hX : wfM (bec_51 Z) ∧ PlM (bec_51 Z)) (hk : Q (.inl none) (ov h (gO (moL g A) (f_Mod_becomes_51  Z)))) : PW g M_Mod_becomes 4 kc ks Q 51 [.ref (A 100)] [] (ov h (gO (moL g A) Z)) := by
  refine pw_aload_n e_Mod_becomes_51 rfl ?_
  refine pw_getf e_Mod_becomes_52 fl_Mod_111 (gO_get hnd (i := 0) rfl) rfl ?_
  refine pw_aload_n e_Mod_becomes_55 rfl ?_
  refine pw_getf e_Mod_becomes_56 fl_Mod_16 (gO_get hnd (i := 0) rfl) rfl ?_
  refine pw_detS (As := [.ref (A 54), .ref (A 2)]) e_Mod_becomes_59 li_Mod_381 (q_Mod_moves hst (Z 54) 10 (by decide) (fun e => bs_ne hnd (i := 29) (j := 3) rfl rfl (by decide) e) (Z 2) (gO_get hnd (i := 3) rfl)) rfl (by decide) (Nat.le_of_ble_eq_true rfl) rfl ?_
  refine pw_upG (i := 3) hnd (mo_x _ _) rfl rfl ?_
  refine w_Mod_becomes_62 hst hnd (va_up Z 2 (f_Mod_moves (Z 54) 10 (Z 2))) (by exact hX) ?_
  rw [f_Mod_becomes_51] at hk
  exact hk
noncomputable def f_Mod_becomes_40  (Z : Nat → Nat → Int32) : (Nat → Nat → Int32) :=
  f_Mod_becomes_51  (va_up Z 1 (f_Mod_moves (Z 53) 10 (Z 1)))
set_option maxRecDepth 4000 in
theorem w_Mod_becomes_40 {g : GG} {Q : QT} {h : Hp} {kc ks : Nat} (hst : (gl g).stackTraces = false) {A : Nat → Nat} (hnd : (gK (moL g A)).Nodup)  (Z : Nat → Nat → Int32) (hX : wfM (bec_40 Z) ∧ PlM (bec_40 Z)) (hk : Q (.inl none) (ov h (gO (moL g A) (f_Mod_becomes_40  Z)))) : PW g M_Mod_becomes 4 kc ks Q 40 [.ref (A 100)] [] (ov h (gO (moL g A) Z)) := by
  refine pw_aload_n e_Mod_becomes_40 rfl ?_
  refine pw_getf e_Mod_becomes_41 fl_Mod_108 (gO_get hnd (i := 0) rfl) rfl ?_
  refine pw_aload_n e_Mod_becomes_44 rfl ?_
  refine pw_getf e_Mod_becomes_45 fl_Mod_13 (gO_get hnd (i := 0) rfl) rfl ?_
  refine pw_detS (As := [.ref (A 53), .ref (A 1)]) e_Mod_becomes_48 li_Mod_381 (q_Mod_moves hst (Z 53) 10 (by decide) (fun e => bs_ne hnd (i := 28) (j := 2) rfl rfl (by decide) e) (Z 1) (gO_get hnd (i := 2) rfl)) rfl (by decide) (Nat.le_of_ble_eq_true rfl) rfl ?_
  refine pw_upG (i := 2) hnd (mo_x _ _) rfl rfl ?_
  refine w_Mod_becomes_51 hst hnd (va_up Z 1 (f_Mod_moves (Z 53) 10 (Z 1))) (by exact hX) ?_
  rw [f_Mod_becomes_40] at hk
  exact hk
noncomputable def f_Mod_becomes  (Z : Nat → Nat → Int32) : (Nat → Nat → Int32) :=
  f_Mod_becomes_40  (u2 (u2 (u2 (u2 (u2 Z 100 19 (Z 100 66)) 100 20 ((u2 Z 100 19 (Z 100 66)) 100 67)) 100 21 ((u2 (u2 Z 100 19 (Z 100 66)) 100 20 ((u2 Z 100 19 (Z 100 66)) 100 67)) 100 68)) 100 22 ((u2 (u2 (u2 Z 100 19 (Z 100 66)) 100 20 ((u2 Z 100 19 (Z 100 66)) 100 67)) 100 21 ((u2 (u2 Z 100 19 (Z 100 66)) 100 20 ((u2 Z 100 19 (Z 100 66)) 100 67)) 100 68)) 100 69)) 100 23 ((u2 (u2 (u2 (u2 Z 100 19 (Z 100 66)) 100 20 ((u2 Z 100 19 (Z 100 66)) 100 67)) 100 21 ((u2 (u2 Z 100 19 (Z 100 66)) 100 20 ((u2 Z 100 19 (Z 100 66)) 100 67)) 100 68)) 100 22 ((u2 (u2 (u2 Z 100 19 (Z 100 66)) 100 20 ((u2 Z 100 19 (Z 100 66)) 100 67)) 100 21 ((u2 (u2 Z 100 19 (Z 100 66)) 100 20 ((u2 Z 100 19 (Z 100 66)) 100 67)) 100 68)) 100 69)) 100 70))
set_option maxRecDepth 4000 in
theorem w_Mod_becomes_0 {g : GG} {Q : QT} {h : Hp} {kc ks : Nat} (hst : (gl g).stackTraces = false) {A : Nat → Nat} (hnd : (gK (moL g A)).Nodup)  (Z : Nat → Nat → Int32) (hw : wfM Z) (h2 : isN Z 2 60) (hR : RdM Z) (hk : Q (.inl none) (ov h (gO (moL g A) (f_Mod_becomes  Z)))) : PW g M_Mod_becomes 4 kc ks Q 0 [.ref (A 100)] [] (ov h (gO (moL g A) Z)) := by
  refine pw_aload_n e_Mod_becomes_0 rfl ?_
  refine pw_aload_n e_Mod_becomes_1 rfl ?_
  refine pw_getf e_Mod_becomes_2 fl_Mod_321 (gO_get hnd (i := 0) rfl) rfl ?_
  refine pw_putGi (i := 0) (ps := 19) (x := Z 100 66) e_Mod_becomes_5 fp_Mod_64 hnd (mo_x _ _) rfl (Nat.le_of_ble_eq_true rfl) rfl rfl (fun _ _ => rfl) ?_
  refine pw_aload_n e_Mod_becomes_8 rfl ?_
  refine pw_aload_n e_Mod_becomes_9 rfl ?_
  refine pw_getf e_Mod_becomes_10 fl_Mod_318 (gO_get hnd (i := 0) rfl) rfl ?_
  refine pw_putGi (i := 0) (ps := 20) (x := (u2 Z 100 19 (Z 100 66)) 100 67) e_Mod_becomes_13 fp_Mod_183 hnd (mo_x _ _) rfl (Nat.le_of_ble_eq_true rfl) rfl rfl (fun _ _ => rfl) ?_
  refine pw_aload_n e_Mod_becomes_16 rfl ?_
  refine pw_aload_n e_Mod_becomes_17 rfl ?_
  refine pw_getf e_Mod_becomes_18 fl_Mod_333 (gO_get hnd (i := 0) rfl) rfl ?_
  refine pw_putGi (i := 0) (ps := 21) (x := (u2 (u2 Z 100 19 (Z 100 66)) 100 20 ((u2 Z 100 19 (Z 100 66)) 100 67)) 100 68) e_Mod_becomes_21 fp_Mod_162 hnd (mo_x _ _) rfl (Nat.le_of_ble_eq_true rfl) rfl rfl (fun _ _ => rfl) ?_
  refine pw_aload_n e_Mod_becomes_24 rfl ?_
  refine pw_aload_n e_Mod_becomes_25 rfl ?_
  refine pw_getf e_Mod_becomes_26 fl_Mod_348 (gO_get hnd (i := 0) rfl) rfl ?_
  refine pw_putGi (i := 0) (ps := 22) (x := (u2 (u2 (u2 Z 100 19 (Z 100 66)) 100 20 ((u2 Z 100 19 (Z 100 66)) 100 67)) 100 21 ((u2 (u2 Z 100 19 (Z 100 66)) 100 20 ((u2 Z 100 19 (Z 100 66)) 100 67)) 100 68)) 100 69) e_Mod_becomes_29 fp_Mod_68 hnd (mo_x _ _) rfl (Nat.le_of_ble_eq_true rfl) rfl rfl (fun _ _ => rfl) ?_
  refine pw_aload_n e_Mod_becomes_32 rfl ?_
  refine pw_aload_n e_Mod_becomes_33 rfl ?_
  refine pw_getf e_Mod_becomes_34 fl_Mod_351 (gO_get hnd (i := 0) rfl) rfl ?_
  refine pw_putGi (i := 0) (ps := 23) (x := (u2 (u2 (u2 (u2 Z 100 19 (Z 100 66)) 100 20 ((u2 Z 100 19 (Z 100 66)) 100 67)) 100 21 ((u2 (u2 Z 100 19 (Z 100 66)) 100 20 ((u2 Z 100 19 (Z 100 66)) 100 67)) 100 68)) 100 22 ((u2 (u2 (u2 Z 100 19 (Z 100 66)) 100 20 ((u2 Z 100 19 (Z 100 66)) 100 67)) 100 21 ((u2 (u2 Z 100 19 (Z 100 66)) 100 20 ((u2 Z 100 19 (Z 100 66)) 100 67)) 100 68)) 100 69)) 100 70) e_Mod_becomes_37 fp_Mod_71 hnd (mo_x _ _) rfl (Nat.le_of_ble_eq_true rfl) rfl rfl (fun _ _ => rfl) ?_
  refine w_Mod_becomes_40 hst hnd (u2 (u2 (u2 (u2 (u2 Z 100 19 (Z 100 66)) 100 20 ((u2 Z 100 19 (Z 100 66)) 100 67)) 100 21 ((u2 (u2 Z 100 19 (Z 100 66)) 100 20 ((u2 Z 100 19 (Z 100 66)) 100 67)) 100 68)) 100 22 ((u2 (u2 (u2 Z 100 19 (Z 100 66)) 100 20 ((u2 Z 100 19 (Z 100 66)) 100 67)) 100 21 ((u2 (u2 Z 100 19 (Z 100 66)) 100 20 ((u2 Z 100 19 (Z 100 66)) 100 67)) 100 68)) 100 69)) 100 23 ((u2 (u2 (u2 (u2 Z 100 19 (Z 100 66)) 100 20 ((u2 Z 100 19 (Z 100 66)) 100 67)) 100 21 ((u2 (u2 Z 100 19 (Z 100 66)) 100 20 ((u2 Z 100 19 (Z 100 66)) 100 67)) 100 68)) 100 22 ((u2 (u2 (u2 Z 100 19 (Z 100 66)) 100 20 ((u2 Z 100 19 (Z 100 66)) 100 67)) 100 21 ((u2 (u2 Z 100 19 (Z 100 66)) 100 20 ((u2 Z 100 19 (Z 100 66)) 100 67)) 100 68)) 100 69)) 100 70)) (by exact be_wf hw h2 hR) ?_
  rw [f_Mod_becomes] at hk
  exact hk
theorem q_Mod_becomes {g : GG} {h : Hp} (hst : (gl g).stackTraces = false) {A : Nat → Nat} (hnd : (gK (moL g A)).Nodup)  (Z : Nat → Nat → Int32) (hm : ∀ q ∈ gO (moL g A) Z, h q.1 = some q.2) (hw : wfM Z) (h2 : isN Z 2 60) (hR : RdM Z) : PM g M_Mod_becomes 4 0 0 [.ref (A 100)] h (RetV none (ov h (gO (moL g A) (f_Mod_becomes  Z)))) := by
  refine PM.of hst (by decide) rfl (fun v hv => ?_) (Nat.le_of_ble_eq_true rfl) ?_
  · simp only [List.mem_cons, List.not_mem_nil, or_false] at hv; rcases hv with rfl <;> rfl
  · have hq := w_Mod_becomes_0 (g := g) (Q := RetV none (ov h (gO (moL g A) (f_Mod_becomes  Z)))) (h := h) (kc := 0) (ks := 0) hst hnd Z hw h2 hR ?_
    · rw [ov_self hm] at hq; exact hq
    · exact ⟨rfl, rfl⟩

