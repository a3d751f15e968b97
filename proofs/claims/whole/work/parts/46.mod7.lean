/-! the reference: the cycle as it lays it, how it begins (written by wip/whole/c_mod7.py) -/
theorem PlM.uk {Z : Nat → Nat → Int32} {k i : Nat} {v : Int32} (h : PlM Z) (hk : (2 ≠ k ∧ 8 ≠ k) ∧ 9 ≠ k ∧ 100 ≠ k) : PlM (u2 Z k i v) := h.of (u2_k hk.1.1) (u2_k hk.1.2) (u2_k hk.2.1) (u2_o hk.2.2 rfl) (u2_o hk.2.2 rfl)
theorem PlM.u100 {Z : Nat → Nat → Int32} {i : Nat} {v : Int32} (h : PlM Z) (hi : 20 ≠ i ∧ 21 ≠ i) : PlM (u2 Z 100 i v) := h.of (u2_k (by decide)) (u2_k (by decide)) (u2_k (by decide)) (u2_i hi.1 rfl) (u2_i hi.2 rfl)
theorem PlM.up0 {Z : Nat → Nat → Int32} {f : Nat → Int32} (h : PlM Z) : PlM (va_up Z 0 f) := h.of rfl rfl rfl rfl rfl
theorem PlM.sf {Z : Nat → Nat → Int32} {a : Nat} (h : PlM Z) : PlM (f_Mod_slotFrom a Z).2 := h.of (sf_keep.1 _ (by decide) (by decide)) (sf_keep.1 _ (by decide) (by decide)) (sf_keep.1 _ (by decide) (by decide)) (sf_keep.2 _ (by decide) (by decide)) (sf_keep.2 _ (by decide) (by decide))
theorem PlM.tm {Z : Nat → Nat → Int32} {b n : Nat} (h : PlM Z) (hn : n < 60) : PlM (u2 Z 2 b (nI n)) := by
  refine ⟨fun j => ?_, h.2⟩
  by_cases c : j = b
  · have e : (u2 Z 2 b (nI n)) 2 j = nI n := by rw [c]; exact u2_s
    rw [pN_mk (by omega) e]; exact ⟨e, hn⟩
  · have e : (u2 Z 2 b (nI n)) 2 j = Z 2 j := u2_i c rfl
    rw [pN_o e, e]; exact h.1 j
/-- all blocks are taken -/
def AlI (Z : Nat → Nat → Int32) : Prop := ∀ b, b < pN Z 100 20 → ¬ Z 40 b = 0
theorem AlI.of {Z Q : Nat → Nat → Int32} (h : AlI Z) (e20 : Q 100 20 = Z 100 20) (e40 : Q 40 = Z 40) : AlI Q := by
  unfold AlI pN at *; rw [e20, e40]; exact h
theorem AlI.uk {Z : Nat → Nat → Int32} {k i : Nat} {v : Int32} (h : AlI Z) (hk : 40 ≠ k ∧ 100 ≠ k) : AlI (u2 Z k i v) := h.of (u2_o hk.2 rfl) (u2_k hk.1)
theorem AlI.sf {Z : Nat → Nat → Int32} {a : Nat} (h : AlI Z) : AlI (f_Mod_slotFrom a Z).2 := h.of (sf_keep.2 _ (by decide) (by decide)) (sf_keep.1 _ (by decide) (by decide))
theorem ly_en2 {Z : Nat → Nat → Int32} {K l : Nat} (hw : wfM Z) (h : LyI Z K) (hK : K < 1000) (ha : AlI Z) (hp : PlM Z) (hl : l < pN Z 100 21) : Z 36 (pN Z 9 l) = nI (pN Z 36 (pN Z 9 l)) ∧ pN Z 36 (pN Z 9 l) ≤ pN Z 100 42 ∧ pN Z 100 42 < 1000 := by
  have q := h.2.2.2 _ (hw.to l).2 (ha _ (hp.2.2 l hl).2)
  exact ⟨q.1, q.2, Nat.lt_of_le_of_lt h.1.2 hK⟩
def f_Mod_laysCycle_119  : Nat → (Nat → Nat → Int32) → (Nat) → (Nat → Nat → Int32)
  | 0, Z, _ => Z
  | t + 1, Z, l => if (pN Z 100 21) ≤ l then Z else if (pN Z 10 l) = 2 then if (f_Mod_isWithin Z l) = 0 then f_Mod_laysCycle_119  t (u2 ((f_Mod_slotFrom (pN Z 36 (pN Z 9 l)) Z).2) 38 l ((f_Mod_slotFrom (pN Z 36 (pN Z 9 l)) Z).1)) (l + 1) else f_Mod_laysCycle_119  t (u2 Z 38 l ((-1))) (l + 1) else f_Mod_laysCycle_119  t (u2 Z 38 l ((-1))) (l + 1)
set_option maxRecDepth 4000 in
theorem w_Mod_laysCycle_119 {g : GG} {Q : QT} {h : Hp} {kc ks : Nat} (hst : (gl g).stackTraces = false) {A : Nat → Nat} (hnd : (gK (moL g A)).Nodup)  (t : Nat) : ∀ (Z : Nat → Nat → Int32) (l : Nat) (hw : wfM Z) (hp : PlM Z) (hY : LyI Z (720 + l)) (ha : AlI Z) (hl9 : l ≤ 12) (hlt : 12 - l < t) (hk : Q (.inl none) (ov h (gO (moL g A) (f_Mod_laysCycle_119  t Z l)))), PW g M_Mod_laysCycle 3 kc ks Q 119 [.ref (A 100), .int (nI (l)), .retAddr 0] [] (ov h (gO (moL g A) Z)) := by
  induction t with
  | zero => intro Z l hw hp hY ha hl9 hlt _; exact absurd hlt (Nat.not_lt_zero _)
  | succ t ih =>
    intro Z l hw hp hY ha hl9 hlt hk
    have hz0 := hw.blk.2
    have hz1 := hw.lnk.2
    have hz2 := hw.dvs.2
    refine pw_iload_n e_Mod_laysCycle_119 rfl ?_
    refine pw_aload_n e_Mod_laysCycle_120 rfl ?_
    refine pw_getf e_Mod_laysCycle_121 fl_Mod_162 (gO_get hnd (i := 0) rfl) rfl ?_
    rw [show Z 100 21 = nI (pN Z 100 21) from hw.lnk.1]
    refine pw_icmp_geN (tgt := 176) e_Mod_laysCycle_124 (by decide) (by omega) (by omega) (fun (H1 : (pN Z 100 21) ≤ l) => ?_) (fun (H1 : l < (pN Z 100 21)) => ?_)
    · refine pw_vret e_Mod_laysCycle_176 rfl ?_
      rw [f_Mod_laysCycle_119, if_pos H1] at hk
      exact hk
    · refine pw_aload_n e_Mod_laysCycle_127 rfl ?_
      refine pw_getf e_Mod_laysCycle_128 fl_Mod_92 (gO_get hnd (i := 0) rfl) rfl ?_
      refine pw_iload_n e_Mod_laysCycle_131 rfl ?_
      refine pw_aload_n e_Mod_laysCycle_132 rfl ?_
      refine pw_getf e_Mod_laysCycle_133 fl_Mod_40 (gO_get hnd (i := 0) rfl) rfl ?_
      refine pw_iload_n e_Mod_laysCycle_136 rfl ?_
      have hb2 := hw.whr l
      refine pw_ialdC e_Mod_laysCycle_137 (gO_get hnd (i := 11) rfl) (by omega) (by decide) hb2.1 ?_
      replace hb2 := hb2.2
      refine pw_iconst (v := nI 2) e_Mod_laysCycle_138 (by decide) ?_
      refine pw_icmp_neN (tgt := 150) e_Mod_laysCycle_139 (by decide) (by omega) (by omega) (fun (H3 : ¬ (pN Z 10 l) = 2) => ?_) (fun (H3 : (pN Z 10 l) = 2) => ?_)
      · refine pw_iconst (v := (-1)) e_Mod_laysCycle_150 (by decide) ?_
        refine pw_goto (tgt := 169) e_Mod_laysCycle_151 (by decide) ?_
        refine pw_iastG (i := 24) e_Mod_laysCycle_169 hnd (mo_x _ _) rfl (by omega) (by decide) ?_
        refine pw_iincN (ls2 := [_, _, _]) e_Mod_laysCycle_170 rfl (by decide) rfl ?_
        refine pw_goto (tgt := 119) e_Mod_laysCycle_173 (by decide) ?_
        refine ih (u2 Z 38 l ((-1))) (l + 1) (wfM.uk (k := 38) hw (by decide)) (by first | exact hp.uk (by decide) | exact PlM.uk hp.sf (by decide)) (by first | exact LyI.uk (hY.mono (by omega)) (by decide) | exact LyI.uk ((ly_slot hY (by omega) (by omega)).1.mono (by omega)) (by decide)) (by first | exact ha.uk (by decide) | exact AlI.uk ha.sf (by decide)) (by omega) (by omega) ?_
        rw [f_Mod_laysCycle_119, if_neg (Nat.not_le.mpr H1), if_neg H3] at hk
        exact hk
      · refine pw_aload_n e_Mod_laysCycle_142 rfl ?_
        refine pw_iload_n e_Mod_laysCycle_143 rfl ?_
        refine pw_detV (As := [.int (nI (l))]) e_Mod_laysCycle_144 li_Mod_175 rfl (gO_get hnd (i := 0) rfl) (q_Mod_isWithin hst (mo_pl hnd) hw l (by omega)) rfl (by decide) (Nat.le_of_ble_eq_true rfl) rfl ?_
        refine pw_if_eq (tgt := 154) e_Mod_laysCycle_147 (by decide) (fun (H4 : (f_Mod_isWithin Z l) = 0) => ?_) (fun (H4 : ¬ (f_Mod_isWithin Z l) = 0) => ?_)
        · refine pw_aload_n e_Mod_laysCycle_154 rfl ?_
          refine pw_aload_n e_Mod_laysCycle_155 rfl ?_
          refine pw_getf e_Mod_laysCycle_156 fl_Mod_86 (gO_get hnd (i := 0) rfl) rfl ?_
          refine pw_aload_n e_Mod_laysCycle_159 rfl ?_
          refine pw_getf e_Mod_laysCycle_160 fl_Mod_37 (gO_get hnd (i := 0) rfl) rfl ?_
          refine pw_iload_n e_Mod_laysCycle_163 rfl ?_
          have hb5 := hw.to l
          refine pw_ialdC e_Mod_laysCycle_164 (gO_get hnd (i := 10) rfl) (by omega) (by decide) hb5.1 ?_
          replace hb5 := hb5.2
          have hb6 := ly_en2 hw hY (by omega) ha hp (by omega)
          refine pw_ialdC e_Mod_laysCycle_165 (gO_get hnd (i := 22) rfl) (by omega) (by decide) hb6.1 ?_
          replace hb6 := hb6.2
          refine pw_detV (As := [.int (nI (pN Z 36 (pN Z 9 l)))]) e_Mod_laysCycle_166 li_Mod_179 rfl (gO_get hnd (i := 0) rfl) (q_Mod_slotFrom hst hnd (pN Z 36 (pN Z 9 l)) Z (gO_in hnd (fun _ z => z)) hw hY (by omega) (by omega)) rfl (by decide) (Nat.le_of_ble_eq_true rfl) rfl ?_
          refine pw_sameG hnd ?_
          refine pw_iastG (i := 24) e_Mod_laysCycle_169 hnd (mo_x _ _) rfl (by omega) (by decide) ?_
          refine pw_iincN (ls2 := [_, _, _]) e_Mod_laysCycle_170 rfl (by decide) rfl ?_
          refine pw_goto (tgt := 119) e_Mod_laysCycle_173 (by decide) ?_
          refine ih (u2 ((f_Mod_slotFrom (pN Z 36 (pN Z 9 l)) Z).2) 38 l ((f_Mod_slotFrom (pN Z 36 (pN Z 9 l)) Z).1)) (l + 1) (wfM.uk (k := 38) (z_slotFrom hw) (by decide)) (by first | exact hp.uk (by decide) | exact PlM.uk hp.sf (by decide)) (by first | exact LyI.uk (hY.mono (by omega)) (by decide) | exact LyI.uk ((ly_slot hY (by omega) (by omega)).1.mono (by omega)) (by decide)) (by first | exact ha.uk (by decide) | exact AlI.uk ha.sf (by decide)) (by omega) (by omega) ?_
          rw [f_Mod_laysCycle_119, if_neg (Nat.not_le.mpr H1), if_pos H3, if_pos H4] at hk
          exact hk
        · refine pw_iconst (v := (-1)) e_Mod_laysCycle_150 (by decide) ?_
          refine pw_goto (tgt := 169) e_Mod_laysCycle_151 (by decide) ?_
          refine pw_iastG (i := 24) e_Mod_laysCycle_169 hnd (mo_x _ _) rfl (by omega) (by decide) ?_
          refine pw_iincN (ls2 := [_, _, _]) e_Mod_laysCycle_170 rfl (by decide) rfl ?_
          refine pw_goto (tgt := 119) e_Mod_laysCycle_173 (by decide) ?_
          refine ih (u2 Z 38 l ((-1))) (l + 1) (wfM.uk (k := 38) hw (by decide)) (by first | exact hp.uk (by decide) | exact PlM.uk hp.sf (by decide)) (by first | exact LyI.uk (hY.mono (by omega)) (by decide) | exact LyI.uk ((ly_slot hY (by omega) (by omega)).1.mono (by omega)) (by decide)) (by first | exact ha.uk (by decide) | exact AlI.uk ha.sf (by decide)) (by omega) (by omega) ?_
          rw [f_Mod_laysCycle_119, if_neg (Nat.not_le.mpr H1), if_pos H3, if_neg H4] at hk
          exact hk
def f_Mod_laysCycle_85  : Nat → (Nat → Nat → Int32) → (Nat) → (Nat) → Int32 × (Nat → Nat → Int32)
  | 0, Z, _, _ => (0, Z)
  | t + 1, Z, k, b => if (f_Mod_canBeTaken b Z) = 0 then f_Mod_laysCycle_85  t Z k (b + 1) else (nI (b), Z)
set_option maxRecDepth 4000 in
theorem w_Mod_laysCycle_85 {g : GG} {Q : QT} {h : Hp} {kc ks : Nat} (hst : (gl g).stackTraces = false) {A : Nat → Nat} (hnd : (gK (moL g A)).Nodup)  (t : Nat) : ∀ (Z : Nat → Nat → Int32) (k : Nat) (b : Nat) (hw : wfM Z) (hC : hasC Z b) (hlt : 10 - b < t) (hk : PW g M_Mod_laysCycle 3 kc ks Q 99 [.ref (A 100), .int (nI (k)), .int ((f_Mod_laysCycle_85  t Z k b).1)] [] (ov h (gO (moL g A) ((f_Mod_laysCycle_85  t Z k b).2)))), PW g M_Mod_laysCycle 3 kc ks Q 85 [.ref (A 100), .int (nI (k)), .int (nI (b))] [] (ov h (gO (moL g A) Z)) := by
  induction t with
  | zero => intro Z k b hw hC hlt _; exact absurd hlt (Nat.not_lt_zero _)
  | succ t ih =>
    intro Z k b hw hC hlt hk
    have hb10 := hc_lt hC
    have hz0 := hw.blk.2
    have hz1 := hw.lnk.2
    have hz2 := hw.dvs.2
    refine pw_aload_n e_Mod_laysCycle_85 rfl ?_
    refine pw_iload_n e_Mod_laysCycle_86 rfl ?_
    refine pw_detV (As := [.int (nI (b))]) e_Mod_laysCycle_87 li_Mod_186 rfl (gO_get hnd (i := 0) rfl) (q_Mod_canBeTaken hst hnd b (by omega) Z (gO_in hnd (fun _ z => z)) hw) rfl (by decide) (Nat.le_of_ble_eq_true rfl) rfl ?_
    refine pw_if_ne (tgt := 99) e_Mod_laysCycle_90 (by decide) (fun (H1 : ¬ (f_Mod_canBeTaken b Z) = 0) => ?_) (fun (H1 : (f_Mod_canBeTaken b Z) = 0) => ?_)
    · rw [f_Mod_laysCycle_85, if_neg H1] at hk
      exact hk
    · refine pw_iincN (ls2 := [_, _, _]) e_Mod_laysCycle_93 rfl (by decide) rfl ?_
      refine pw_goto (tgt := 85) e_Mod_laysCycle_96 (by decide) ?_
      refine ih Z k (b + 1) hw (hc_st hC H1) (by omega) ?_
      rw [f_Mod_laysCycle_85, if_pos H1] at hk
      exact hk
theorem cb_85 {Z : Nat → Nat → Int32} {k b : Nat} {t : Nat} (hC : hasC Z b) (ht : 10 - b < t) : f_Mod_laysCycle_85 t Z k b = (nI (cbF Z t b), Z) := by
  induction t generalizing b with
  | zero => omega
  | succ t ih =>
    rw [f_Mod_laysCycle_85, cbF]
    by_cases c : f_Mod_canBeTaken b Z = 0
    · rw [if_pos c, if_pos c]; have := hc_lt hC; exact ih (hc_st hC c) (by omega)
    · rw [if_neg c, if_neg c]
/-- one more block is taken -/
theorem lay_st {Z : Nat → Nat → Int32} {k : Nat} (hw : wfM Z) (hp : PlM Z) (hY : LyI Z (72 * k)) (hc : cntT Z (pN Z 100 20) = k) (hk : k < pN Z 100 20) : wfM (f_Mod_takes (cbF Z 11 0) (u2 Z 34 k (nI (cbF Z 11 0)))) ∧ PlM (f_Mod_takes (cbF Z 11 0) (u2 Z 34 k (nI (cbF Z 11 0)))) ∧ LyI (f_Mod_takes (cbF Z 11 0) (u2 Z 34 k (nI (cbF Z 11 0)))) (72 * (k + 1)) ∧ pN (f_Mod_takes (cbF Z 11 0) (u2 Z 34 k (nI (cbF Z 11 0)))) 100 20 = pN Z 100 20 ∧ cntT (f_Mod_takes (cbF Z 11 0) (u2 Z 34 k (nI (cbF Z 11 0)))) (pN Z 100 20) = k + 1 ∧ f_Mod_takes (cbF Z 11 0) (u2 Z 34 k (nI (cbF Z 11 0))) 40 = upd (Z 40) (cbF Z 11 0) 1 ∧ f_Mod_takes (cbF Z 11 0) (u2 Z 34 k (nI (cbF Z 11 0))) 34 = upd (Z 34) k (nI (cbF Z 11 0)) ∧ cbF Z 11 0 < pN Z 100 20 := by
  have hz0 := hw.blk.2
  have hC := hc_ex hw hp (by omega)
  have hq := cbF_of 11 0 hC (by omega)
  have hcb := cb_of hw hq.2.2.1
  have kp := tk_keep (b := cbF Z 11 0) 13 (u2 Z 34 k (nI (cbF Z 11 0))) ((u2 Z 34 k (nI (cbF Z 11 0))) 39 (pN (u2 Z 34 k (nI (cbF Z 11 0))) 1 (cbF Z 11 0))) 0
  have kK : ∀ j, tkK j → f_Mod_takes (cbF Z 11 0) (u2 Z 34 k (nI (cbF Z 11 0))) j = (u2 Z 34 k (nI (cbF Z 11 0))) j := fun j hj => by rw [f_Mod_takes]; exact kp.1 j hj
  have kI : ∀ i, i ≠ 42 → i ≠ 43 → f_Mod_takes (cbF Z 11 0) (u2 Z 34 k (nI (cbF Z 11 0))) 100 i = Z 100 i := fun i h0 h1 => by rw [f_Mod_takes, kp.2 i h0 h1]; rfl
  have hT : isN (u2 Z 34 k (nI (cbF Z 11 0))) 2 60 := hp.1
  have ta := tk_all (K := 72 * k) hq.1 (by omega) (wfM.tk hw hq.1) hT (LyI.uk hY (by decide)) (RdI.uk hcb.2 (by decide))
  have e20 : pN (f_Mod_takes (cbF Z 11 0) (u2 Z 34 k (nI (cbF Z 11 0)))) 100 20 = pN Z 100 20 := pN_o (kI 20 (by decide) (by decide))
  have hlt : cbF Z 11 0 < pN Z 100 20 := by
    apply Classical.byContradiction
    intro hn
    obtain ⟨-, ⟨r, hr⟩, hin⟩ := hp
    obtain ⟨b0, hb0, h0⟩ := cntT_lt (Z := Z) (n := pN Z 100 20) (by omega)
    have key : ∀ (m b : Nat), r b < m → b < pN Z 100 20 → Z 40 b = 0 → ∃ j, j < pN Z 100 20 ∧ Z 40 j = 0 ∧ RdI Z j := by
      intro m
      induction m with
      | zero => intro b h; omega
      | succ m ih =>
        intro b hm hb h0
        by_cases c : RdI Z b
        · exact ⟨b, hb, h0, c⟩
        · have : ∃ l, l < pN Z 100 21 ∧ pN Z 9 l = b ∧ Z 40 (pN Z 8 l) = 0 := by
            apply Classical.byContradiction
            intro hn
            exact c (fun l hl h1 h2 => hn ⟨l, hl, h1, h2⟩)
          obtain ⟨l, hl, h1, h2⟩ := this
          have h3 := hr l hl
          rw [h1] at h3
          exact ih _ (by omega) (hin l hl).1 h2
    obtain ⟨j, hj, h1, h2⟩ := key _ b0 (Nat.lt_succ_self _) hb0 h0
    have := hq.2.2.2 j (Nat.zero_le _) (by omega)
    rw [cb_to hw h1 h2] at this
    exact absurd this (by decide)
  have e40 : (u2 Z 34 k (nI (cbF Z 11 0))) 40 = Z 40 := rfl
  refine ⟨z_takes (wfM.tk hw hq.1), ?_, ta.1.mono (by omega), e20, ?_, ta.2.trans (by rw [e40]), ?_, hlt⟩
  · exact hp.of (kK 2 (by unfold tkK; decide)) (kK 8 (by unfold tkK; decide)) (kK 9 (by unfold tkK; decide)) (kI 20 (by decide) (by decide)) (kI 21 (by decide) (by decide))
  · rw [cntT_up (Z := Z) hcb.1 (ta.2.trans (by rw [e40])) hlt, hc]
  · rw [kK 34 (by unfold tkK; decide)]
    unfold u2; rw [up_same]
theorem ht_st {Z Q : Nat → Nat → Int32} {k b0 : Nat} (hb0 : b0 < 10) (ht : ∀ b, b < 10 → ¬ Z 40 b = 0 → ∃ j, j < k ∧ pN Z 34 j = b) (e40 : Q 40 = upd (Z 40) b0 1) (e34 : Q 34 = upd (Z 34) k (nI b0)) : ∀ b, b < 10 → ¬ Q 40 b = 0 → ∃ j, j < k + 1 ∧ pN Q 34 j = b := by
  intro b hb h
  by_cases c : b = b0
  · refine ⟨k, by omega, ?_⟩
    refine pN_mk (by omega) ?_
    rw [e34, c]; exact if_pos rfl
  · rw [e40] at h
    have e : upd (Z 40) b0 1 b = Z 40 b := if_neg c
    rw [e] at h
    obtain ⟨j, h1, h2⟩ := ht b hb h
    refine ⟨j, by omega, ?_⟩
    rw [← h2]
    refine pN_o ?_
    rw [e34]; exact if_neg (by omega)
def f_Mod_laysCycle_75  : Nat → (Nat → Nat → Int32) → (Nat) → (Nat → Nat → Int32)
  | 0, Z, _ => Z
  | t + 1, Z, k => if (pN Z 100 20) ≤ k then Z else f_Mod_laysCycle_75  t (f_Mod_takes (cbF Z 11 0) (u2 Z 34 k (nI (cbF Z 11 0)))) (k + 1)
set_option maxRecDepth 4000 in
theorem w_Mod_laysCycle_75 {g : GG} {Q : QT} {h : Hp} {kc ks : Nat} (hst : (gl g).stackTraces = false) {A : Nat → Nat} (hnd : (gK (moL g A)).Nodup)  (t : Nat) : ∀ (Z : Nat → Nat → Int32) (k : Nat) (hw : wfM Z) (hp : PlM Z) (hY : LyI Z (72 * k)) (hc : cntT Z (pN Z 100 20) = k) (hk9 : k ≤ pN Z 100 20) (ht : ∀ b, b < 10 → ¬ Z 40 b = 0 → ∃ j, j < k ∧ pN Z 34 j = b) (hlt : 10 - k < t) (hk : PW g M_Mod_laysCycle 3 kc ks Q 117 [.ref (A 100), .retAddr 0, .retAddr 0] [] (ov h (gO (moL g A) (f_Mod_laysCycle_75  t Z k)))), PW g M_Mod_laysCycle 3 kc ks Q 75 [.ref (A 100), .int (nI (k)), .retAddr 0] [] (ov h (gO (moL g A) Z)) := by
  induction t with
  | zero => intro Z k hw hp hY hc hk9 ht hlt _; exact absurd hlt (Nat.not_lt_zero _)
  | succ t ih =>
    intro Z k hw hp hY hc hk9 ht hlt hk
    have hz0 := hw.blk.2
    have hz1 := hw.lnk.2
    have hz2 := hw.dvs.2
    refine pw_iload_n e_Mod_laysCycle_75 rfl ?_
    refine pw_aload_n e_Mod_laysCycle_76 rfl ?_
    refine pw_getf e_Mod_laysCycle_77 fl_Mod_183 (gO_get hnd (i := 0) rfl) rfl ?_
    rw [show Z 100 20 = nI (pN Z 100 20) from hw.blk.1]
    refine pw_icmp_geN (tgt := 117) e_Mod_laysCycle_80 (by decide) (by omega) (by omega) (fun (H1 : (pN Z 100 20) ≤ k) => ?_) (fun (H1 : k < (pN Z 100 20)) => ?_)
    · refine pw_fgt (ls' := [.ref (A 100), .retAddr 0, .retAddr 0]) ⟨Or.inr rfl, Or.inl rfl, Or.inr rfl, trivial⟩ ?_
      rw [f_Mod_laysCycle_75, if_pos H1] at hk
      exact hk
    · refine pw_iconst (v := nI 0) e_Mod_laysCycle_83 (by decide) ?_
      refine pw_istore_n (ls2 := [_, _, _]) e_Mod_laysCycle_84 (by decide) rfl ?_
      refine w_Mod_laysCycle_85 hst hnd 11 Z k 0 hw (hc_ex hw hp (by omega)) (by omega) ?_
      have hC := hc_ex hw hp (by omega)
      have hq := cbF_of 11 0 hC (by omega)
      rw [cb_85 hC (by omega)]
      show PW _ _ _ _ _ _ _ [.ref (A 100), .int (nI (k)), .int (nI (cbF Z 11 0))] [] (ov h (gO (moL g A) Z))
      have hq1 := hq.1
      refine pw_aload_n e_Mod_laysCycle_99 rfl ?_
      refine pw_getf e_Mod_laysCycle_100 fl_Mod_80 (gO_get hnd (i := 0) rfl) rfl ?_
      refine pw_iload_n e_Mod_laysCycle_103 rfl ?_
      refine pw_iload_n e_Mod_laysCycle_104 rfl ?_
      refine pw_iastG (i := 20) e_Mod_laysCycle_105 hnd (mo_x _ _) rfl (by omega) (by decide) ?_
      refine pw_aload_n e_Mod_laysCycle_106 rfl ?_
      refine pw_iload_n e_Mod_laysCycle_107 rfl ?_
      refine pw_detV (As := [.int (nI (cbF Z 11 0))]) e_Mod_laysCycle_108 li_Mod_189 rfl (gO_get hnd (i := 0) rfl) (q_Mod_takes hst hnd (cbF Z 11 0) (by omega) (u2 Z 34 k (nI (cbF Z 11 0))) (gO_in hnd (fun _ z => z)) (wfM.tk hw (by omega)) (LyI.uk hY (by decide)) (RdI.uk (cb_of hw hq.2.2.1).2 (by decide)) (by omega)) rfl (by decide) (Nat.le_of_ble_eq_true rfl) rfl ?_
      refine pw_sameG hnd ?_
      refine pw_iincN (ls2 := [_, _, _]) e_Mod_laysCycle_111 rfl (by decide) rfl ?_
      refine pw_goto (tgt := 75) e_Mod_laysCycle_114 (by decide) ?_
      refine pw_fgt (ls' := [.ref (A 100), .int (nI (k + 1)), .retAddr 0]) ⟨Or.inr rfl, Or.inr rfl, Or.inl rfl, trivial⟩ ?_
      refine ih (f_Mod_takes (cbF Z 11 0) (u2 Z 34 k (nI (cbF Z 11 0)))) (k + 1) (z_takes (wfM.tk hw (by omega))) (lay_st hw hp hY hc (by omega)).2.1 (lay_st hw hp hY hc (by omega)).2.2.1 (by rw [(lay_st hw hp hY hc (by omega)).2.2.2.1]; exact (lay_st hw hp hY hc (by omega)).2.2.2.2.1) (by rw [(lay_st hw hp hY hc (by omega)).2.2.2.1]; omega) (ht_st hq1 ht (lay_st hw hp hY hc (by omega)).2.2.2.2.2.1 (lay_st hw hp hY hc (by omega)).2.2.2.2.2.2.1) (by omega) ?_
      rw [f_Mod_laysCycle_75, if_neg (Nat.not_le.mpr H1)] at hk
      exact hk
theorem lay_75 : ∀ (t : Nat) (Z : Nat → Nat → Int32) (k : Nat), wfM Z → PlM Z → LyI Z (72 * k) → cntT Z (pN Z 100 20) = k → k ≤ pN Z 100 20 → (∀ b, b < 10 → ¬ Z 40 b = 0 → ∃ j, j < k ∧ pN Z 34 j = b) → 10 - k < t → wfM (f_Mod_laysCycle_75 t Z k) ∧ PlM (f_Mod_laysCycle_75 t Z k) ∧ LyI (f_Mod_laysCycle_75 t Z k) 720 ∧ AlI (f_Mod_laysCycle_75 t Z k) ∧ TkI (f_Mod_laysCycle_75 t Z k) ∧ (∀ j, tkK j → j ≠ 34 → f_Mod_laysCycle_75 t Z k j = Z j) ∧ ∀ i, i ≠ 42 → i ≠ 43 → f_Mod_laysCycle_75 t Z k 100 i = Z 100 i := by
  intro t
  induction t with
  | zero => intro Z k _ _ _ _ _ _ h; omega
  | succ t ih =>
    intro Z k hw hp hY hc hk ht hlt
    have hz0 := hw.blk.2
    rw [f_Mod_laysCycle_75]
    by_cases c : pN Z 100 20 ≤ k
    · rw [if_pos c]
      have hal : AlI Z := fun b hb => cntT_full (Z := Z) (n := pN Z 100 20) (by omega) b hb
      refine ⟨hw, hp, hY.mono (by omega), hal, fun b hb => ?_, fun _ _ _ => rfl, fun _ _ _ => rfl⟩
      obtain ⟨j, h1, h2⟩ := ht b (by omega) (hal b hb)
      exact ⟨j, Nat.zero_le _, by omega, h2⟩
    · rw [if_neg c]
      have hC := hc_ex hw hp (by omega)
      have hq := cbF_of 11 0 hC (by omega)
      obtain ⟨s1, s2, s3, s4, s5, s6, s7, s8⟩ := lay_st hw hp hY hc (by omega)
      have r := ih _ (k + 1) s1 s2 s3 (by rw [s4]; exact s5) (by rw [s4]; omega) (ht_st hq.1 ht s6 s7) (by omega)
      have kp := tk_keep (b := cbF Z 11 0) 13 (u2 Z 34 k (nI (cbF Z 11 0))) ((u2 Z 34 k (nI (cbF Z 11 0))) 39 (pN (u2 Z 34 k (nI (cbF Z 11 0))) 1 (cbF Z 11 0))) 0
      refine ⟨r.1, r.2.1, r.2.2.1, r.2.2.2.1, r.2.2.2.2.1, fun j hj h34 => ?_, fun i h0 h1 => ?_⟩
      · rw [r.2.2.2.2.2.1 j hj h34, f_Mod_takes, kp.1 j hj, u2_k h34]
      · rw [r.2.2.2.2.2.2 i h0 h1, f_Mod_takes, kp.2 i h0 h1, u2_k (by decide)]
def f_Mod_laysCycle_54  : Nat → (Nat → Nat → Int32) → (Nat) → (Nat → Nat → Int32)
  | 0, Z, _ => Z
  | t + 1, Z, k => if 10 ≤ k then Z else f_Mod_laysCycle_54  t (u2 Z 40 k 0) (k + 1)
set_option maxRecDepth 4000 in
theorem w_Mod_laysCycle_54 {g : GG} {Q : QT} {h : Hp} {kc ks : Nat} (hst : (gl g).stackTraces = false) {A : Nat → Nat} (hnd : (gK (moL g A)).Nodup)  (t : Nat) : ∀ (Z : Nat → Nat → Int32) (k : Nat) (hw : wfM Z) (hk9 : k ≤ 10) (hlt : 10 - k < t) (hk : PW g M_Mod_laysCycle 3 kc ks Q 73 [.ref (A 100), .retAddr 0, .retAddr 0] [] (ov h (gO (moL g A) (f_Mod_laysCycle_54  t Z k)))), PW g M_Mod_laysCycle 3 kc ks Q 54 [.ref (A 100), .int (nI (k)), .retAddr 0] [] (ov h (gO (moL g A) Z)) := by
  induction t with
  | zero => intro Z k hw hk9 hlt _; exact absurd hlt (Nat.not_lt_zero _)
  | succ t ih =>
    intro Z k hw hk9 hlt hk
    have hz0 := hw.blk.2
    have hz1 := hw.lnk.2
    have hz2 := hw.dvs.2
    refine pw_iload_n e_Mod_laysCycle_54 rfl ?_
    refine pw_bipush (v := nI 10) e_Mod_laysCycle_55 (by decide) ?_
    refine pw_icmp_geN (tgt := 73) e_Mod_laysCycle_57 (by decide) (by omega) (by omega) (fun (H1 : 10 ≤ k) => ?_) (fun (H1 : k < 10) => ?_)
    · refine pw_fgt (ls' := [.ref (A 100), .retAddr 0, .retAddr 0]) ⟨Or.inr rfl, Or.inl rfl, Or.inr rfl, trivial⟩ ?_
      rw [f_Mod_laysCycle_54, if_pos H1] at hk
      exact hk
    · refine pw_aload_n e_Mod_laysCycle_60 rfl ?_
      refine pw_getf e_Mod_laysCycle_61 fl_Mod_98 (gO_get hnd (i := 0) rfl) rfl ?_
      refine pw_iload_n e_Mod_laysCycle_64 rfl ?_
      refine pw_iconst (v := nI 0) e_Mod_laysCycle_65 (by decide) ?_
      refine pw_zastG (i := 26) e_Mod_laysCycle_66 hnd (mo_x _ _) rfl (by omega) (by decide) (by decide) ?_
      refine pw_iincN (ls2 := [_, _, _]) e_Mod_laysCycle_67 rfl (by decide) rfl ?_
      refine pw_goto (tgt := 54) e_Mod_laysCycle_70 (by decide) ?_
      refine ih (u2 Z 40 k 0) (k + 1) (wfM.uk (k := 40) hw (by decide)) (by omega) (by omega) ?_
      rw [f_Mod_laysCycle_54, if_neg (Nat.not_le.mpr H1)] at hk
      exact hk
theorem z_laysCycle_54 : ∀ (t : Nat) {Z : Nat → Nat → Int32} (k : Nat) (h : wfM Z), wfM (f_Mod_laysCycle_54 t Z k) := by
  intro t
  induction t with
  | zero => intro Z k h; exact h
  | succ t ih =>
    intro Z k h
    rw [f_Mod_laysCycle_54]
    repeat' split
    all_goals repeat (first | exact h | apply ih | apply wfM.up0 | refine wfM.u100 ?_ (by decide) | refine wfM.uk ?_ (by decide))
theorem s_laysCycle_54 : ∀ (t : Nat) (Z : Nat → Nat → Int32) (k : Nat), k ≤ 10 → 10 - k < t → (∀ j, j ≠ 40 → f_Mod_laysCycle_54 t Z k j = Z j) ∧ ∀ j, f_Mod_laysCycle_54 t Z k 40 j = if k ≤ j ∧ j < 10 then 0 else Z 40 j := by
  intro t
  induction t with
  | zero => intro Z k _ h; omega
  | succ t ih =>
    intro Z k hk ht
    rw [f_Mod_laysCycle_54]
    by_cases c : 10 ≤ k
    · rw [if_pos c]
      exact ⟨fun _ _ => rfl, fun j => by rw [if_neg (by omega)]⟩
    · rw [if_neg c]
      have q := ih (u2 Z 40 k 0) (k + 1) (by omega) (by omega)
      refine ⟨fun j hj => by rw [q.1 j hj, u2_k hj], fun j => ?_⟩
      rw [q.2 j]
      by_cases e : j = k
      · rw [if_neg (by omega), if_pos (by omega), e]; exact u2_s
      · rw [u2_i e rfl]
        by_cases e2 : k + 1 ≤ j ∧ j < 10
        · rw [if_pos e2, if_pos (by omega)]
        · rw [if_neg e2, if_neg (by omega)]
def f_Mod_laysCycle_34  : Nat → (Nat → Nat → Int32) → (Nat) → (Nat → Nat → Int32)
  | 0, Z, _ => Z
  | t + 1, Z, k => if 5 ≤ k then Z else f_Mod_laysCycle_34  t (u2 Z 39 k 0) (k + 1)
set_option maxRecDepth 4000 in
theorem w_Mod_laysCycle_34 {g : GG} {Q : QT} {h : Hp} {kc ks : Nat} (hst : (gl g).stackTraces = false) {A : Nat → Nat} (hnd : (gK (moL g A)).Nodup)  (t : Nat) : ∀ (Z : Nat → Nat → Int32) (k : Nat) (hw : wfM Z) (hk9 : k ≤ 5) (hlt : 5 - k < t) (hk : PW g M_Mod_laysCycle 3 kc ks Q 52 [.ref (A 100), .retAddr 0, .retAddr 0] [] (ov h (gO (moL g A) (f_Mod_laysCycle_34  t Z k)))), PW g M_Mod_laysCycle 3 kc ks Q 34 [.ref (A 100), .int (nI (k)), .retAddr 0] [] (ov h (gO (moL g A) Z)) := by
  induction t with
  | zero => intro Z k hw hk9 hlt _; exact absurd hlt (Nat.not_lt_zero _)
  | succ t ih =>
    intro Z k hw hk9 hlt hk
    have hz0 := hw.blk.2
    have hz1 := hw.lnk.2
    have hz2 := hw.dvs.2
    refine pw_iload_n e_Mod_laysCycle_34 rfl ?_
    refine pw_iconst (v := nI 5) e_Mod_laysCycle_35 (by decide) ?_
    refine pw_icmp_geN (tgt := 52) e_Mod_laysCycle_36 (by decide) (by omega) (by omega) (fun (H1 : 5 ≤ k) => ?_) (fun (H1 : k < 5) => ?_)
    · refine pw_fgt (ls' := [.ref (A 100), .retAddr 0, .retAddr 0]) ⟨Or.inr rfl, Or.inl rfl, Or.inr rfl, trivial⟩ ?_
      rw [f_Mod_laysCycle_34, if_pos H1] at hk
      exact hk
    · refine pw_aload_n e_Mod_laysCycle_39 rfl ?_
      refine pw_getf e_Mod_laysCycle_40 fl_Mod_95 (gO_get hnd (i := 0) rfl) rfl ?_
      refine pw_iload_n e_Mod_laysCycle_43 rfl ?_
      refine pw_iconst (v := nI 0) e_Mod_laysCycle_44 (by decide) ?_
      refine pw_iastG (i := 25) e_Mod_laysCycle_45 hnd (mo_x _ _) rfl (by omega) (by decide) ?_
      refine pw_iincN (ls2 := [_, _, _]) e_Mod_laysCycle_46 rfl (by decide) rfl ?_
      refine pw_goto (tgt := 34) e_Mod_laysCycle_49 (by decide) ?_
      refine ih (u2 Z 39 k 0) (k + 1) (wfM.uk (k := 39) hw (by decide)) (by omega) (by omega) ?_
      rw [f_Mod_laysCycle_34, if_neg (Nat.not_le.mpr H1)] at hk
      exact hk
theorem z_laysCycle_34 : ∀ (t : Nat) {Z : Nat → Nat → Int32} (k : Nat) (h : wfM Z), wfM (f_Mod_laysCycle_34 t Z k) := by
  intro t
  induction t with
  | zero => intro Z k h; exact h
  | succ t ih =>
    intro Z k h
    rw [f_Mod_laysCycle_34]
    repeat' split
    all_goals repeat (first | exact h | apply ih | apply wfM.up0 | refine wfM.u100 ?_ (by decide) | refine wfM.uk ?_ (by decide))
theorem s_laysCycle_34 : ∀ (t : Nat) (Z : Nat → Nat → Int32) (k : Nat), k ≤ 5 → 5 - k < t → (∀ j, j ≠ 39 → f_Mod_laysCycle_34 t Z k j = Z j) ∧ ∀ j, f_Mod_laysCycle_34 t Z k 39 j = if k ≤ j ∧ j < 5 then 0 else Z 39 j := by
  intro t
  induction t with
  | zero => intro Z k _ h; omega
  | succ t ih =>
    intro Z k hk ht
    rw [f_Mod_laysCycle_34]
    by_cases c : 5 ≤ k
    · rw [if_pos c]
      exact ⟨fun _ _ => rfl, fun j => by rw [if_neg (by omega)]⟩
    · rw [if_neg c]
      have q := ih (u2 Z 39 k 0) (k + 1) (by omega) (by omega)
      refine ⟨fun j hj => by rw [q.1 j hj, u2_k hj], fun j => ?_⟩
      rw [q.2 j]
      by_cases e : j = k
      · rw [if_neg (by omega), if_pos (by omega), e]; exact u2_s
      · rw [u2_i e rfl]
        by_cases e2 : k + 1 ≤ j ∧ j < 5
        · rw [if_pos e2, if_pos (by omega)]
        · rw [if_neg e2, if_neg (by omega)]
def f_Mod_laysCycle_12  : Nat → (Nat → Nat → Int32) → (Nat) → (Nat → Nat → Int32)
  | 0, Z, _ => Z
  | t + 1, Z, k => if 1000 ≤ k then Z else f_Mod_laysCycle_12  t (u2 Z 41 k 0) (k + 1)
set_option maxRecDepth 4000 in
theorem w_Mod_laysCycle_12 {g : GG} {Q : QT} {h : Hp} {kc ks : Nat} (hst : (gl g).stackTraces = false) {A : Nat → Nat} (hnd : (gK (moL g A)).Nodup)  (t : Nat) : ∀ (Z : Nat → Nat → Int32) (k : Nat) (hw : wfM Z) (hk9 : k ≤ 1000) (hlt : 1000 - k < t) (hk : PW g M_Mod_laysCycle 3 kc ks Q 32 [.ref (A 100), .retAddr 0, .retAddr 0] [] (ov h (gO (moL g A) (f_Mod_laysCycle_12  t Z k)))), PW g M_Mod_laysCycle 3 kc ks Q 12 [.ref (A 100), .int (nI (k)), .retAddr 0] [] (ov h (gO (moL g A) Z)) := by
  induction t with
  | zero => intro Z k hw hk9 hlt _; exact absurd hlt (Nat.not_lt_zero _)
  | succ t ih =>
    intro Z k hw hk9 hlt hk
    have hz0 := hw.blk.2
    have hz1 := hw.lnk.2
    have hz2 := hw.dvs.2
    refine pw_iload_n e_Mod_laysCycle_12 rfl ?_
    refine pw_sipush (v := nI 1000) e_Mod_laysCycle_13 (by decide) ?_
    refine pw_icmp_geN (tgt := 32) e_Mod_laysCycle_16 (by decide) (by omega) (by omega) (fun (H1 : 1000 ≤ k) => ?_) (fun (H1 : k < 1000) => ?_)
    · refine pw_fgt (ls' := [.ref (A 100), .retAddr 0, .retAddr 0]) ⟨Or.inr rfl, Or.inl rfl, Or.inr rfl, trivial⟩ ?_
      rw [f_Mod_laysCycle_12, if_pos H1] at hk
      exact hk
    · refine pw_aload_n e_Mod_laysCycle_19 rfl ?_
      refine pw_getf e_Mod_laysCycle_20 fl_Mod_102 (gO_get hnd (i := 0) rfl) rfl ?_
      refine pw_iload_n e_Mod_laysCycle_23 rfl ?_
      refine pw_iconst (v := nI 0) e_Mod_laysCycle_24 (by decide) ?_
      refine pw_zastG (i := 27) e_Mod_laysCycle_25 hnd (mo_x _ _) rfl (by omega) (by decide) (by decide) ?_
      refine pw_iincN (ls2 := [_, _, _]) e_Mod_laysCycle_26 rfl (by decide) rfl ?_
      refine pw_goto (tgt := 12) e_Mod_laysCycle_29 (by decide) ?_
      refine ih (u2 Z 41 k 0) (k + 1) (wfM.uk (k := 41) hw (by decide)) (by omega) (by omega) ?_
      rw [f_Mod_laysCycle_12, if_neg (Nat.not_le.mpr H1)] at hk
      exact hk
theorem z_laysCycle_12 : ∀ (t : Nat) {Z : Nat → Nat → Int32} (k : Nat) (h : wfM Z), wfM (f_Mod_laysCycle_12 t Z k) := by
  intro t
  induction t with
  | zero => intro Z k h; exact h
  | succ t ih =>
    intro Z k h
    rw [f_Mod_laysCycle_12]
    repeat' split
    all_goals repeat (first | exact h | apply ih | apply wfM.up0 | refine wfM.u100 ?_ (by decide) | refine wfM.uk ?_ (by decide))
theorem s_laysCycle_12 : ∀ (t : Nat) (Z : Nat → Nat → Int32) (k : Nat), k ≤ 1000 → 1000 - k < t → (∀ j, j ≠ 41 → f_Mod_laysCycle_12 t Z k j = Z j) ∧ ∀ j, f_Mod_laysCycle_12 t Z k 41 j = if k ≤ j ∧ j < 1000 then 0 else Z 41 j := by
  intro t
  induction t with
  | zero => intro Z k _ h; omega
  | succ t ih =>
    intro Z k hk ht
    rw [f_Mod_laysCycle_12]
    by_cases c : 1000 ≤ k
    · rw [if_pos c]
      exact ⟨fun _ _ => rfl, fun j => by rw [if_neg (by omega)]⟩
    · rw [if_neg c]
      have q := ih (u2 Z 41 k 0) (k + 1) (by omega) (by omega)
      refine ⟨fun j hj => by rw [q.1 j hj, u2_k hj], fun j => ?_⟩
      rw [q.2 j]
      by_cases e : j = k
      · rw [if_neg (by omega), if_pos (by omega), e]; exact u2_s
      · rw [u2_i e rfl]
        by_cases e2 : k + 1 ≤ j ∧ j < 1000
        · rw [if_pos e2, if_pos (by omega)]
        · rw [if_neg e2, if_neg (by omega)]
theorem lay_0 {Z : Nat → Nat → Int32} (hw : wfM Z) (hp : PlM Z) : wfM (f_Mod_laysCycle_54 11 (f_Mod_laysCycle_34 6 (f_Mod_laysCycle_12 1001 (u2 (u2 Z 100 43 0) 100 42 0) 0) 0) 0) ∧ PlM (f_Mod_laysCycle_54 11 (f_Mod_laysCycle_34 6 (f_Mod_laysCycle_12 1001 (u2 (u2 Z 100 43 0) 100 42 0) 0) 0) 0) ∧ LyI (f_Mod_laysCycle_54 11 (f_Mod_laysCycle_34 6 (f_Mod_laysCycle_12 1001 (u2 (u2 Z 100 43 0) 100 42 0) 0) 0) 0) 0 ∧ (∀ b, b < 10 → f_Mod_laysCycle_54 11 (f_Mod_laysCycle_34 6 (f_Mod_laysCycle_12 1001 (u2 (u2 Z 100 43 0) 100 42 0) 0) 0) 0 40 b = 0) ∧ (∀ k, k ≠ 39 → k ≠ 40 → k ≠ 41 → k ≠ 100 → f_Mod_laysCycle_54 11 (f_Mod_laysCycle_34 6 (f_Mod_laysCycle_12 1001 (u2 (u2 Z 100 43 0) 100 42 0) 0) 0) 0 k = Z k) ∧ (∀ i, i ≠ 42 → i ≠ 43 → f_Mod_laysCycle_54 11 (f_Mod_laysCycle_34 6 (f_Mod_laysCycle_12 1001 (u2 (u2 Z 100 43 0) 100 42 0) 0) 0) 0 100 i = Z 100 i) := by
  have q1 := s_laysCycle_12 1001 (u2 (u2 Z 100 43 0) 100 42 0) 0 (by omega) (by omega)
  have q2 := s_laysCycle_34 6 (f_Mod_laysCycle_12 1001 (u2 (u2 Z 100 43 0) 100 42 0) 0) 0 (by omega) (by omega)
  have q3 := s_laysCycle_54 11 (f_Mod_laysCycle_34 6 (f_Mod_laysCycle_12 1001 (u2 (u2 Z 100 43 0) 100 42 0) 0) 0) 0 (by omega) (by omega)
  have kk : ∀ k, k ≠ 39 → k ≠ 40 → k ≠ 41 → k ≠ 100 → f_Mod_laysCycle_54 11 (f_Mod_laysCycle_34 6 (f_Mod_laysCycle_12 1001 (u2 (u2 Z 100 43 0) 100 42 0) 0) 0) 0 k = Z k := fun k h39 h40 h41 h100 => by rw [q3.1 k h40, q2.1 k h39, q1.1 k h41, u2_k h100, u2_k h100]
  have ki : ∀ i, f_Mod_laysCycle_54 11 (f_Mod_laysCycle_34 6 (f_Mod_laysCycle_12 1001 (u2 (u2 Z 100 43 0) 100 42 0) 0) 0) 0 100 i = (u2 (u2 Z 100 43 0) 100 42 0) 100 i := fun i => by rw [q3.1 100 (by decide), q2.1 100 (by decide), q1.1 100 (by decide)]
  have kj : ∀ i, i ≠ 42 → i ≠ 43 → f_Mod_laysCycle_54 11 (f_Mod_laysCycle_34 6 (f_Mod_laysCycle_12 1001 (u2 (u2 Z 100 43 0) 100 42 0) 0) 0) 0 100 i = Z 100 i := fun i h0 h1 => by rw [ki, u2_i h0 rfl, u2_i h1 rfl]
  have e42 : f_Mod_laysCycle_54 11 (f_Mod_laysCycle_34 6 (f_Mod_laysCycle_12 1001 (u2 (u2 Z 100 43 0) 100 42 0) 0) 0) 0 100 42 = nI 0 := by rw [ki]; exact u2_s
  have p42 := pN_mk (Z := f_Mod_laysCycle_54 11 (f_Mod_laysCycle_34 6 (f_Mod_laysCycle_12 1001 (u2 (u2 Z 100 43 0) 100 42 0) 0) 0) 0) (by decide) e42
  have e40 : ∀ b, b < 10 → f_Mod_laysCycle_54 11 (f_Mod_laysCycle_34 6 (f_Mod_laysCycle_12 1001 (u2 (u2 Z 100 43 0) 100 42 0) 0) 0) 0 40 b = 0 := fun b hb => by rw [q3.2 b, if_pos (by omega)]
  refine ⟨?_, ?_, ?_, e40, kk, kj⟩
  · exact hw.of (kk _ (by decide) (by decide) (by decide) (by decide)) (kk _ (by decide) (by decide) (by decide) (by decide)) (kk _ (by decide) (by decide) (by decide) (by decide)) (kk _ (by decide) (by decide) (by decide) (by decide)) (kk _ (by decide) (by decide) (by decide) (by decide)) (kk _ (by decide) (by decide) (by decide) (by decide)) (kk _ (by decide) (by decide) (by decide) (by decide)) (kk _ (by decide) (by decide) (by decide) (by decide)) (kk _ (by decide) (by decide) (by decide) (by decide)) (kj _ (by decide) (by decide)) (kj _ (by decide) (by decide)) (kj _ (by decide) (by decide))
  · exact hp.of (kk _ (by decide) (by decide) (by decide) (by decide)) (kk _ (by decide) (by decide) (by decide) (by decide)) (kk _ (by decide) (by decide) (by decide) (by decide)) (kj _ (by decide) (by decide)) (kj _ (by decide) (by decide))
  · unfold LyI
    rw [p42]
    refine ⟨⟨e42, Nat.le_refl _⟩, fun j hj0 hj => ?_, fun d hd0 => ?_, fun b hb0 hb => absurd (e40 b hb0) hb⟩
    · exfalso; apply hj
      rw [q3.1 41 (by decide), q2.1 41 (by decide), q1.2 j, if_pos (by omega)]
    · have e : f_Mod_laysCycle_54 11 (f_Mod_laysCycle_34 6 (f_Mod_laysCycle_12 1001 (u2 (u2 Z 100 43 0) 100 42 0) 0) 0) 0 39 d = nI 0 := by
        rw [q3.1 39 (by decide), q2.2 d, if_pos (by omega)]; rfl
      rw [pN_mk (by decide) e]
      exact ⟨e, Nat.le_refl _⟩
theorem lay_A {Z : Nat → Nat → Int32} (hw : wfM Z) (hp : PlM Z) : wfM (f_Mod_laysCycle_75 11 (f_Mod_laysCycle_54 11 (f_Mod_laysCycle_34 6 (f_Mod_laysCycle_12 1001 (u2 (u2 Z 100 43 0) 100 42 0) 0) 0) 0) 0) ∧ PlM (f_Mod_laysCycle_75 11 (f_Mod_laysCycle_54 11 (f_Mod_laysCycle_34 6 (f_Mod_laysCycle_12 1001 (u2 (u2 Z 100 43 0) 100 42 0) 0) 0) 0) 0) ∧ LyI (f_Mod_laysCycle_75 11 (f_Mod_laysCycle_54 11 (f_Mod_laysCycle_34 6 (f_Mod_laysCycle_12 1001 (u2 (u2 Z 100 43 0) 100 42 0) 0) 0) 0) 0) 720 ∧ AlI (f_Mod_laysCycle_75 11 (f_Mod_laysCycle_54 11 (f_Mod_laysCycle_34 6 (f_Mod_laysCycle_12 1001 (u2 (u2 Z 100 43 0) 100 42 0) 0) 0) 0) 0) ∧ TkI (f_Mod_laysCycle_75 11 (f_Mod_laysCycle_54 11 (f_Mod_laysCycle_34 6 (f_Mod_laysCycle_12 1001 (u2 (u2 Z 100 43 0) 100 42 0) 0) 0) 0) 0) ∧ (∀ j, tkK j → j ≠ 34 → f_Mod_laysCycle_75 11 (f_Mod_laysCycle_54 11 (f_Mod_laysCycle_34 6 (f_Mod_laysCycle_12 1001 (u2 (u2 Z 100 43 0) 100 42 0) 0) 0) 0) 0 j = Z j) ∧ ∀ i, i ≠ 42 → i ≠ 43 → f_Mod_laysCycle_75 11 (f_Mod_laysCycle_54 11 (f_Mod_laysCycle_34 6 (f_Mod_laysCycle_12 1001 (u2 (u2 Z 100 43 0) 100 42 0) 0) 0) 0) 0 100 i = Z 100 i := by
  obtain ⟨a1, a2, a3, a4, a5, a6⟩ := lay_0 hw hp
  have hz := a1.blk.2
  have r := lay_75 11 _ 0 a1 a2 a3 (cntT_0 (fun b hb => a4 b (by omega))) (Nat.zero_le _) (fun b hb h => absurd (a4 b hb) h) (by omega)
  refine ⟨r.1, r.2.1, r.2.2.1, r.2.2.2.1, r.2.2.2.2.1, fun j hj h34 => ?_, fun i h0 h1 => ?_⟩
  · rw [r.2.2.2.2.2.1 j hj h34, a5 j hj.2.2.2.1 hj.2.2.2.2.1 hj.2.2.2.2.2.1 hj.2.2.2.2.2.2]
  · rw [r.2.2.2.2.2.2 i h0 h1, a6 i h0 h1]
def f_Mod_laysCycle  (Z : Nat → Nat → Int32) : (Nat → Nat → Int32) :=
  f_Mod_laysCycle_119  13 (f_Mod_laysCycle_75  11 (f_Mod_laysCycle_54  11 (f_Mod_laysCycle_34  6 (f_Mod_laysCycle_12  1001 (u2 (u2 Z 100 43 0) 100 42 0) 0) 0) 0) 0) 0
set_option maxRecDepth 4000 in
theorem w_Mod_laysCycle_0 {g : GG} {Q : QT} {h : Hp} {kc ks : Nat} (hst : (gl g).stackTraces = false) {A : Nat → Nat} (hnd : (gK (moL g A)).Nodup)  (Z : Nat → Nat → Int32) (hw : wfM Z) (hp : PlM Z) (hk : Q (.inl none) (ov h (gO (moL g A) (f_Mod_laysCycle  Z)))) : PW g M_Mod_laysCycle 3 kc ks Q 0 [.ref (A 100), .retAddr 0, .retAddr 0] [] (ov h (gO (moL g A) Z)) := by
  have hz0 := hw.blk.2
  have hz1 := hw.lnk.2
  have hz2 := hw.dvs.2
  refine pw_aload_n e_Mod_laysCycle_0 rfl ?_
  refine pw_aload_n e_Mod_laysCycle_1 rfl ?_
  refine pw_iconst (v := nI 0) e_Mod_laysCycle_2 (by decide) ?_
  refine pw_dup_x1 e_Mod_laysCycle_3 rfl rfl ?_
  refine pw_putGi (i := 0) (ps := 43) (x := 0) e_Mod_laysCycle_4 fp_Mod_165 hnd (mo_x _ _) rfl (Nat.le_of_ble_eq_true rfl) rfl rfl (fun _ _ => rfl) ?_
  refine pw_putGi (i := 0) (ps := 42) (x := 0) e_Mod_laysCycle_7 fp_Mod_168 hnd (mo_x _ _) rfl (Nat.le_of_ble_eq_true rfl) rfl rfl (fun _ _ => rfl) ?_
  refine pw_iconst (v := nI 0) e_Mod_laysCycle_10 (by decide) ?_
  refine pw_istore_n (ls2 := [_, _, _]) e_Mod_laysCycle_11 (by decide) rfl ?_
  refine w_Mod_laysCycle_12 hst hnd 1001 (u2 (u2 Z 100 43 0) 100 42 0) 0 (wfM.u100 (i := 42) (wfM.u100 (i := 43) hw (by decide)) (by decide)) (by omega) (by omega) ?_
  refine pw_iconst (v := nI 0) e_Mod_laysCycle_32 (by decide) ?_
  refine pw_istore_n (ls2 := [_, _, _]) e_Mod_laysCycle_33 (by decide) rfl ?_
  refine w_Mod_laysCycle_34 hst hnd 6 (f_Mod_laysCycle_12  1001 (u2 (u2 Z 100 43 0) 100 42 0) 0) 0 (z_laysCycle_12 _ _ (wfM.u100 (i := 42) (wfM.u100 (i := 43) hw (by decide)) (by decide))) (by omega) (by omega) ?_
  refine pw_iconst (v := nI 0) e_Mod_laysCycle_52 (by decide) ?_
  refine pw_istore_n (ls2 := [_, _, _]) e_Mod_laysCycle_53 (by decide) rfl ?_
  refine w_Mod_laysCycle_54 hst hnd 11 (f_Mod_laysCycle_34  6 (f_Mod_laysCycle_12  1001 (u2 (u2 Z 100 43 0) 100 42 0) 0) 0) 0 (z_laysCycle_34 _ _ (z_laysCycle_12 _ _ (wfM.u100 (i := 42) (wfM.u100 (i := 43) hw (by decide)) (by decide)))) (by omega) (by omega) ?_
  refine pw_iconst (v := nI 0) e_Mod_laysCycle_73 (by decide) ?_
  refine pw_istore_n (ls2 := [_, _, _]) e_Mod_laysCycle_74 (by decide) rfl ?_
  refine w_Mod_laysCycle_75 hst hnd 11 (f_Mod_laysCycle_54  11 (f_Mod_laysCycle_34  6 (f_Mod_laysCycle_12  1001 (u2 (u2 Z 100 43 0) 100 42 0) 0) 0) 0) 0 (lay_0 hw hp).1 (lay_0 hw hp).2.1 (lay_0 hw hp).2.2.1 (cntT_0 (fun b hb => (lay_0 hw hp).2.2.2.1 b (by have := (lay_0 hw hp).1.blk.2; omega))) (Nat.zero_le _) (fun b hb h => absurd ((lay_0 hw hp).2.2.2.1 b hb) h) (by omega) ?_
  refine pw_iconst (v := nI 0) e_Mod_laysCycle_117 (by decide) ?_
  refine pw_istore_n (ls2 := [_, _, _]) e_Mod_laysCycle_118 (by decide) rfl ?_
  refine w_Mod_laysCycle_119 hst hnd 13 (f_Mod_laysCycle_75  11 (f_Mod_laysCycle_54  11 (f_Mod_laysCycle_34  6 (f_Mod_laysCycle_12  1001 (u2 (u2 Z 100 43 0) 100 42 0) 0) 0) 0) 0) 0 (lay_A hw hp).1 (lay_A hw hp).2.1 (lay_A hw hp).2.2.1 (lay_A hw hp).2.2.2.1 (by omega) (by omega) ?_
  rw [f_Mod_laysCycle] at hk
  exact hk
theorem q_Mod_laysCycle {g : GG} {h : Hp} (hst : (gl g).stackTraces = false) {A : Nat → Nat} (hnd : (gK (moL g A)).Nodup)  (Z : Nat → Nat → Int32) (hm : ∀ q ∈ gO (moL g A) Z, h q.1 = some q.2) (hw : wfM Z) (hp : PlM Z) : PM g M_Mod_laysCycle 3 0 0 [.ref (A 100)] h (RetV none (ov h (gO (moL g A) (f_Mod_laysCycle  Z)))) := by
  refine PM.of hst (by decide) rfl (fun v hv => ?_) (Nat.le_of_ble_eq_true rfl) ?_
  · simp only [List.mem_cons, List.not_mem_nil, or_false] at hv; rcases hv with rfl <;> rfl
  · have hq := w_Mod_laysCycle_0 (g := g) (Q := RetV none (ov h (gO (moL g A) (f_Mod_laysCycle  Z)))) (h := h) (kc := 0) (ks := 0) hst hnd Z hw hp ?_
    · rw [ov_self hm] at hq; exact hq
    · exact ⟨rfl, rfl⟩

theorem lay_119 : ∀ (t : Nat) (Z : Nat → Nat → Int32) (l : Nat), wfM Z → PlM Z → (∀ j, j ≠ 38 → j ≠ 41 → j ≠ 100 → f_Mod_laysCycle_119 t Z l j = Z j) ∧ (∀ i, i ≠ 42 → i ≠ 43 → f_Mod_laysCycle_119 t Z l 100 i = Z 100 i) := by
  intro t
  induction t with
  | zero => intro Z l _ _; exact ⟨fun _ _ _ _ => rfl, fun _ _ _ => rfl⟩
  | succ t ih =>
    intro Z l hw hp
    rw [f_Mod_laysCycle_119]
    repeat' split
    · exact ⟨fun _ _ _ _ => rfl, fun _ _ _ => rfl⟩
    all_goals refine ⟨fun j h38 h41 h100 => ?_, fun i h0 h1 => ?_⟩
    all_goals first | rw [(ih _ _ (wfM.uk hw (by decide)) (hp.uk (by decide))).1 j h38 h41 h100, u2_k h38] | rw [(ih _ _ (wfM.uk hw (by decide)) (hp.uk (by decide))).2 i h0 h1, u2_k (by decide)] | rw [(ih _ _ (wfM.uk (z_slotFrom hw) (by decide)) (PlM.uk hp.sf (by decide))).1 j h38 h41 h100, u2_k h38, sf_keep.1 _ h41 h100] | rw [(ih _ _ (wfM.uk (z_slotFrom hw) (by decide)) (PlM.uk hp.sf (by decide))).2 i h0 h1, u2_k (by decide), sf_keep.2 _ h0 h1]
/-- keys that laying leaves as they were -/
def lyK (k : Nat) : Prop := tkK k ∧ k ≠ 34 ∧ k ≠ 38
theorem lay_all {Z : Nat → Nat → Int32} (hw : wfM Z) (hp : PlM Z) : wfM (f_Mod_laysCycle Z) ∧ PlM (f_Mod_laysCycle Z) ∧ TkI (f_Mod_laysCycle Z) ∧ (∀ k, lyK k → f_Mod_laysCycle Z k = Z k) ∧ ∀ i, i ≠ 42 → i ≠ 43 → f_Mod_laysCycle Z 100 i = Z 100 i := by
  obtain ⟨a1, a2, a3, a4, a5, a6, a7⟩ := lay_A hw hp
  rw [f_Mod_laysCycle]
  have r := lay_119 13 _ 0 a1 a2
  refine ⟨?_, ?_, ?_, fun k hk => ?_, fun i h0 h1 => ?_⟩
  · exact a1.of (r.1 _ (by decide) (by decide) (by decide)) (r.1 _ (by decide) (by decide) (by decide)) (r.1 _ (by decide) (by decide) (by decide)) (r.1 _ (by decide) (by decide) (by decide)) (r.1 _ (by decide) (by decide) (by decide)) (r.1 _ (by decide) (by decide) (by decide)) (r.1 _ (by decide) (by decide) (by decide)) (r.1 _ (by decide) (by decide) (by decide)) (r.1 _ (by decide) (by decide) (by decide)) (r.2 _ (by decide) (by decide)) (r.2 _ (by decide) (by decide)) (r.2 _ (by decide) (by decide))
  · exact a2.of (r.1 _ (by decide) (by decide) (by decide)) (r.1 _ (by decide) (by decide) (by decide)) (r.1 _ (by decide) (by decide) (by decide)) (r.2 _ (by decide) (by decide)) (r.2 _ (by decide) (by decide))
  · intro b hb
    have hb' := hb
    unfold pN at hb'
    rw [r.2 20 (by decide) (by decide)] at hb'
    obtain ⟨j, h1, h2, h3⟩ := a5 b hb'
    refine ⟨j, h1, h2, ?_⟩
    rw [← h3]
    exact pN_o (by rw [r.1 34 (by decide) (by decide) (by decide)])
  · rw [r.1 k hk.2.2 hk.1.2.2.2.2.2.1 hk.1.2.2.2.2.2.2, a6 k hk.1 hk.2.1]
  · rw [r.2 i h0 h1, a7 i h0 h1]
