/-! trials with another gain: toTune -/
theorem CX.tune {P W U : Zf} {b d : Nat} {r0 c r : Nat → Int32} {x y g : Int32} (h : CX P W d r0 x y c r) (hb : b < 10) (hn : pN P 30 3 ≤ 10) (w44 : W 100 44 = -1) (u44 : U 100 44 = nI b) (u45 : U 100 45 = g) (u22 : U 100 22 = W 100 22) (u4 : U 4 = W 4) : CX P U d r0 x y (upd c (b * 9 + 8) g) r := by
  obtain ⟨⟨a1, a2, a3, a4, a5⟩, f, cm, sc⟩ := h
  refine ⟨⟨fun i hi => ?_, fun i hi => ?_, fun k h0 hk hk1 => ?_, ?_, ?_⟩, f, cm, ?_⟩
  · have := hi.2.1
    rw [ud_o (by omega)]; exact a1 i hi
  · by_cases e : i = b * 9 + 8
    · subst e; exact bd_x hb (by omega)
    · rw [ud_o e]; exact a2 i hi
  · unfold f_Mod_gainOf
    rw [u44, u45]
    by_cases e : k = b
    · subst e
      rw [ud_s, if_pos rfl]
    · rw [ud_o (by omega), a3 k h0 hk hk1, if_neg (fun z => e ((nI_eq (by omega) (by omega)).mp z))]
      unfold f_Mod_gainOf pN
      rw [w44, u4, if_neg (m1_ne (by omega))]
  · rw [ud_o (by omega), u22]; exact a4
  · rw [ud_o (by omega), ud_o (by omega)]; exact a5
  · rw [ud_o (by omega)]; exact sc
theorem TR.s2 {P Z Q U : Zf} {r0 : Nat → Int32} {x y : Int32} (hz : Zfr Z Q) (hc : CX P U 0 r0 x y (Q 501) (U 0)) (hp : PK P U) : TR P Z U Q (va_up U 0 (f_Mod_tries U (U 0))) := by
  refine ⟨hz, Wfs.rf.up (fun i hi => ?_), hp.up, x, y, ?_⟩
  · unfold f_Mod_tries
    rw [cp_out (by omega) _ (by omega)]
  · rw [up_same]
    refine CX.up (hc.cp (V := U) (fun i hi => ?_))
    unfold f_Mod_tries
    rw [cp_in (by omega) _ hi, Nat.zero_add]
theorem tm_lp {P Z U : Zf} {b n : Nat} {g a : Int32} (hp : PK P U) (hb : b < pN P 30 3) : ∀ (t k : Nat) (Q V : Zf), TR P Z U Q V → (f_Bus_staysBelow_48 P b g a n t Q k).1 = (f_Mod_isTame_15 b a n t V (lkP U b 0) k).1 ∧ Zfr Z (f_Bus_staysBelow_48 P b g a n t Q k).2 ∧ Wfs U (f_Mod_isTame_15 b a n t V (lkP U b 0) k).2 := by
  have n2 := hp.nb.2
  intro t
  induction t with
  | zero => intro k Q V h; exact ⟨rfl, h.1, h.2.1⟩
  | succ t ih =>
    intro k Q V h
    rw [f_Bus_staysBelow_48, f_Mod_isTame_15]
    by_cases q : n ≤ k
    · rw [if_pos q, if_pos q]; exact ⟨rfl, h.1, h.2.1⟩
    rw [if_neg q, if_neg q]
    have h1 := h.cyc
    obtain ⟨x, y, hc⟩ := h1.2.2.2
    have e2 := h1.gb (k := b) (j := 2) (by omega) (by omega)
    rw [← e2]
    rcases cm_cases hp hb (w := 0) (by decide) with ⟨d1, d2, d3⟩ | ⟨l, hl, hl2, d1, d2, d3, d4, d5, -⟩
    · have l0 : lkP U b 0 = 0 := by unfold lkP; rw [d2]; decide
      simp only [l0] at ih
      rw [l0, if_pos (show nI 0 + -1 = -1 by decide), d3, show va_up Q 501 (f_Cycle_goBy P (Q 501)) 501 (150 + 0) = 0 from hc.bn (j := 0) (by decide)]
      by_cases q2 : 0 - va_up Q 501 (f_Cycle_goBy P (Q 501)) 501 (b * 9 + 2) ≤ a
      · rw [if_pos q2, if_pos q2]; exact ih _ _ _ h1
      · rw [if_neg q2, if_neg q2]; exact ⟨rfl, h1.1, h1.2.1⟩
    · have e5 : nI (lkP U b 0) + -1 = nI l := by rw [d5, nI_one]
      rw [e5, if_neg d3]
      have e0 : va_up Q 501 (f_Cycle_goBy P (Q 501)) 501 (came P b 0 + 0) = va_up V 0 (f_Mod_cycle V 210 (V 0)) 0 (210 + 70 + 10 * lkP U b 0 + 0) := by
        rw [d4, d5]; exact hc.gl2 hl hp.nl.2 (j := 0) (by decide)
      rw [← e0]
      by_cases q2 : va_up Q 501 (f_Cycle_goBy P (Q 501)) 501 (came P b 0 + 0) - va_up Q 501 (f_Cycle_goBy P (Q 501)) 501 (b * 9 + 2) ≤ a
      · rw [if_pos q2, if_pos q2]; exact ih _ _ _ h1
      · rw [if_neg q2, if_neg q2]; exact ⟨rfl, h1.1, h1.2.1⟩
def W44 (W V : Zf) (b : Nat) : Prop := Wfs (u2 W 100 44 (nI b)) V
theorem tt_lp {P Z W : Zf} {x y : Int32} {X a C : Int32} {b n : Nat} (hc : CX P W 0 (W 0) x y (Z 302) (W 0)) (hp : PK P W) (hx : PX P W) (hb : b < pN P 30 3) : ∀ (m t : Nat) (Q V : Zf), m < t → m ≤ 301 → Zfr Z Q → W44 W V b → ∃ v, (f_Bus_toTune_46 P X a C t Q b n (nI m + -1)).1 = .inl v ∧ (f_Mod_toTune_85 X a C t V b n (-1) (nI m + -1)).1 = v ∧ Zfr Z (f_Bus_toTune_46 P X a C t Q b n (nI m + -1)).2 ∧ Wfs W (f_Mod_toTune_85 X a C t V b n (-1) (nI m + -1)).2 := by
  have n2 := hp.nb.2
  have fin : ∀ V : Zf, W44 W V b → Wfs W (u2 V 100 44 (-1)) := by
    intro V ⟨⟨h1, h2, h3⟩, h4⟩
    refine ⟨⟨fun k a b c d => ?_, fun i a b c => ?_, fun i hi => ?_⟩, ?_⟩
    · rw [u2_k b, h1 k a b c d, u2_k b]
    · by_cases e : i = 44
      · subst e; rw [u2_s]; exact hx.1.1.symm
      · rw [u2_i e rfl, h2 i a b c, u2_i e rfl]
    · rw [u2_k (by decide), h3 i hi, u2_k (by decide)]
    · rw [u2_i (by decide) rfl, h4, u2_i (by decide) rfl]
  intro m
  induction m with
  | zero =>
    intro t Q V ht _ hz hw
    cases t with
    | zero => omega
    | succ t =>
      rw [f_Bus_toTune_46, f_Mod_toTune_85, if_pos (by decide), if_pos (by decide)]
      exact ⟨-1, rfl, rfl, hz, fin V hw⟩
  | succ m ih =>
    intro t Q V ht hm hz hw
    cases t with
    | zero => omega
    | succ t =>
      rw [nI_one, f_Bus_toTune_46, f_Mod_toTune_85]
      have ng : ¬ nI m < 0 := nI_pos (by omega)
      rw [if_neg ng, if_neg ng, if_pos rfl]
      unfold f_Bus_staysBelow f_Mod_isTame
      have hu : Wfs (u2 W 100 44 (nI b)) (u2 V 100 45 (nI m)) := Wfs.u1 hw (by omega)
      have u45 : u2 V 100 45 (nI m) 100 45 = nI m := u2_s
      generalize u2 V 100 45 (nI m) = U at *
      have hpU : PK P U := hp.cg (fun j hj => by rw [hu.1.1 j (by omega) (by omega) (by omega) (by omega), u2_k (by omega)]) (fun i hi => by rw [hu.1.2.1 i (by omega) (by omega) (by omega), u2_i (by omega) rfl])
      have hcU : CX P U 0 (U 0) x y (upd (Z 302) (b * 9 + 8) (nI m)) (U 0) :=
        (hc.re (s := U 0) (fun i _ _ => by rw [hu.1.2.2 i (by omega), u2_k (by decide)])).tune (by omega) n2 hx.1.1 (by rw [hu.1.2.1 44 (by decide) (by decide) (by decide), u2_s]) u45 (by rw [hu.1.2.1 22 (by decide) (by decide) (by decide), u2_i (by decide) rfl]) (by rw [hu.1.1 4 (by decide) (by decide) (by decide) (by decide), u2_k (by decide)])
      have hz1 : Zfr Z (u2 (va_up Q 501 (Q 302)) 501 (b * 9 + 8) (nI m)) := (hz.up (by omega)).u2 (by omega)
      have q1 : u2 (va_up Q 501 (Q 302)) 501 (b * 9 + 8) (nI m) 501 = upd (Z 302) (b * 9 + 8) (nI m) := by rw [u2_e, up_same, hz 302 (by omega)]
      have T := TR.s2 hz1 (by rw [q1]; exact hcU) hpU
      obtain ⟨f1, f2, f3⟩ := tm_lp (n := n) (g := nI m) (a := a) hpU hb 31 0 _ _ T
      rw [← f1]
      generalize f_Bus_staysBelow_48 P b (nI m) a n 31 (u2 (va_up Q 501 (Q 302)) 501 (b * 9 + 8) (nI m)) 0 = A at *
      generalize f_Mod_isTame_15 b a n 31 (va_up U 0 (f_Mod_tries U (U 0))) (lkP U b 0) 0 = B at *
      have hw2 : W44 W B.2 b := hu.tr f3
      by_cases q : A.1 = 0
      · rw [if_pos q, if_pos q]; exact ih t _ _ (by omega) (by omega) f2 hw2
      · rw [if_neg q, if_neg q]
        have hne : ¬ nI m = -1 := m1_ne (by omega)
        have : f_Mod_toTune_85 X a C t B.2 b n (nI m) (nI m + -1) = (nI m, u2 B.2 100 44 (-1)) := by
          cases t with
          | zero => omega
          | succ t =>
            rw [f_Mod_toTune_85]
            by_cases z : nI m + -1 < 0
            · rw [if_pos z]
            · rw [if_neg z, if_neg hne]
        rw [this]
        exact ⟨nI m, rfl, rfl, f2, fin _ hw2⟩
theorem e_toTune : E_toTune RelW := by
  intro x y z S P Y Z W h
  have h0 := h.u0
  have hz : u2 W 100 18 0 100 18 = 0 := u2_s
  have hp := h0.2.2.1.1
  have hx := h0.2.2.1.2
  have hc := h0.cx
  have n2 := hp.nb
  show sameX 2 1 (f_Bus_toTune P x y z Z).1 (f_Mod_toTune x y z W) ∧ RelW S P Y (ct (f_Bus_toTune P x y z Z).2 Z) (f_Mod_toTune x y z W).2
  unfold f_Mod_toTune f_Mod_isBlock
  generalize u2 W 100 18 0 = V at *
  unfold f_Bus_toTune
  have i10 : ¬ (1 : Int32) = 0 := by decide
  have keep : ∀ {v : Int32}, RelW S P Y (ct Z Z) (u2 V 100 18 v) := fun {v} => by rw [ct_id (fun _ _ => rfl)]; exact h0.w (Wfr.rf.u1 (by omega))
  rcases ib_eq (x := x) hp with ⟨a1, a2⟩ | ⟨a1, a2, m, hm, rfl⟩
  · rw [a1, a2, rt_z hz (by decide), if_neg (fun z => z rfl)]
    simp only [if_true]
    exact ⟨sx_n1, keep⟩
  · rw [a1, a2, rt_1 hz i10, if_pos i10, nI_clamp (by omega)]
    simp only [if_neg i10]
    unfold f_Bus_toTune_5 f_Mod_toTune_13
    have kk : P 0 m = 1 ↔ pN V 3 m = 1 := by
      rw [← hp.kd hm, ← p_nI (i := m) hp.wP.1.1]
      have := (hp.wP.1.1 m).2
      exact nI_eq (by omega) (by decide)
    by_cases k1 : pN V 3 m = 1
    · rw [if_pos (kk.mpr k1), if_pos k1, show nI 1 = 1 by decide, rt_1 hz i10]
      simp only [if_neg i10]
      rcases wk_of (y := y) (a := 0) (n := 1000) (by decide) (by decide) with ⟨a, b⟩ | ⟨a, b, u, -, hu, rfl⟩
      · rw [a, if_neg b, nI_0, rt_z hz (by decide)]
        simp only [if_true]
        exact ⟨sx_i2, keep⟩
      · rw [a, if_pos b]
        simp only [if_neg i10]
        rcases wk_of (y := z) (a := 1) (n := 30) (by decide) (by decide) with ⟨a, b⟩ | ⟨a, b, n, -, hn, rfl⟩
        · rw [← nI1, a, if_neg b, nI_0, rt_z hz (by decide)]
          simp only [if_true]
          exact ⟨sx_i2, keep⟩
        · rw [← nI1, a, if_pos b, nI1, rt_1 hz i10, nI_clamp (by omega)]
          simp only [if_neg i10]
          unfold f_Bus_toTune_41 f_Mod_toTune_72
          obtain ⟨v, f1, f2, f3, f4⟩ := tt_lp (X := nI m) (a := nI u) (C := nI n) (n := n) hc hp hx hm 301 302 Z (u2 V 100 44 (nI m)) (by omega) (by omega) Zfr.rf Wfs.rf
          rw [show nI 301 + -1 = 300 by decide] at f1 f2 f3 f4
          exact ⟨by rw [f1]; exact sx_v (f4.2.trans hz) f2, h0.fr f3.ct f4.1⟩
    · rw [if_neg (fun w => k1 (kk.mp w)), if_neg k1, nI_0, rt_z hz (by decide)]
      exact ⟨sx_n1, keep⟩
