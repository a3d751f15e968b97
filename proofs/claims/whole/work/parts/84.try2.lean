/-! trials beside one another: lost, toRide -/
theorem CX.old {P W : Zf} {b : Nat} {r0 c r : Nat → Int32} {x y : Int32} (h : CX P W b r0 x y c r) (o : Int32) : CX P (u2 W 100 22 o) b r0 x y (upd c 224 o) r := by
  obtain ⟨⟨a1, a2, a3, a4, a5⟩, f, cm, sc⟩ := h
  refine ⟨⟨fun i hi => ?_, fun i hi => ?_, fun k h0 hk hk1 => ?_, ?_, ?_⟩, f, cm, ?_⟩
  · have := hi.1
    rw [ud_o (by omega)]; exact a1 i hi
  · by_cases e : i = 224
    · subst e; exact bd_t (by decide) (fun z => absurd z (by decide)) (fun z => absurd z (by decide)) (fun z => absurd z (by decide))
    · rw [ud_o e]; exact a2 i hi
  · rw [ud_o (by omega), a3 k h0 hk hk1]
    unfold f_Mod_gainOf pN
    rw [u2_i (by decide) rfl, u2_i (by decide) rfl, u2_k (by decide)]
  · rw [ud_s, u2_s]
  · rw [ud_o (by decide), ud_o (by decide)]; exact a5
  · rw [ud_o (by decide)]; exact sc
theorem CX.cg4 {P W V : Zf} {b : Nat} {r0 c r : Nat → Int32} {x y : Int32} (h : CX P W b r0 x y c r) (hn : pN P 30 3 ≤ 10) (e44 : V 100 44 = -1) (f44 : W 100 44 = -1) (e22 : V 100 22 = W 100 22) (e4 : V 4 = W 4) : CX P V b r0 x y c r := by
  obtain ⟨⟨a1, a2, a3, a4, a5⟩, f⟩ := h
  refine ⟨⟨a1, a2, fun k h0 hk hk1 => ?_, by rw [a4, e22], a5⟩, f⟩
  rw [a3 k h0 hk hk1]
  unfold f_Mod_gainOf pN
  rw [e44, f44, e4, if_neg (m1_ne (by omega)), if_neg (m1_ne (by omega))]
def T2 (P Z W Q V : Zf) : Prop := Zfr Z Q ∧ Wfs W V ∧ PK P V ∧ (∃ x y, CX P V 210 (V 0) x y (Q 503) (V 0)) ∧ ∃ x y, CX P V 420 (V 0) x y (Q 501) (V 0)
theorem T2.cyc {P Z W Q V : Zf} (h : T2 P Z W Q V) : T2 P Z W (va_up (va_up Q 503 (f_Cycle_goBy P (Q 503))) 501 (f_Cycle_goBy P ((va_up Q 503 (f_Cycle_goBy P (Q 503))) 501))) (va_up (va_up V 0 (f_Mod_cycle V 210 (V 0))) 0 (f_Mod_cycle (va_up V 0 (f_Mod_cycle V 210 (V 0))) 420 ((va_up V 0 (f_Mod_cycle V 210 (V 0))) 0))) := by
  obtain ⟨h1, h2, h3, ⟨x, y, hA⟩, x2, y2, hB⟩ := h
  obtain ⟨x', y', cA, -⟩ := cx_cycle hA h3
  rw [up_same, up_ne (show 501 ≠ 503 by decide) rfl]
  generalize f_Mod_cycle V 210 (V 0) = f1 at *
  have hB1 : CX P (va_up V 0 f1) 420 f1 x2 y2 (Q 501) f1 := CX.up (hB.re (fun i a b => cA.fr (by omega)))
  obtain ⟨x3, y3, cB, -⟩ := cx_cycle hB1 h3.up
  generalize f_Mod_cycle (va_up V 0 f1) 420 f1 = f2 at *
  refine ⟨(h1.up (by omega)).up (by omega), (h2.up (fun i hi => cA.fr (by omega))).up (fun i hi => by rw [up_same]; exact cB.fr (by omega)), h3.up.up, ⟨x', y', ?_⟩, x3, y3, ?_⟩
  · rw [up_same, up_ne (by decide) rfl, up_same]
    exact CX.up (CX.up (cA.re (fun i a b => cB.fr (by omega))))
  · rw [up_same, up_same]
    exact CX.up (cB.re (fun _ _ _ => rfl))
theorem un_107 {P Z W Q V : Zf} {x y : Int32} {n d k : Nat} (h : T2 P Z W Q V) : ∀ (t b : Nat) (u : Int32), (f_Bus_unlikeWithout_107 P x n y t Q u k b).2 = Q ∧ (f_Mod_lostBy_61 d n t V u k b).2 = V ∧ (f_Bus_unlikeWithout_107 P x n y t Q u k b).1 = (f_Mod_lostBy_61 d n t V u k b).1 ∧ ((∀ i, pN P 30 3 ≤ i → bt u i = false) → ∀ i, pN P 30 3 ≤ i → bt (f_Bus_unlikeWithout_107 P x n y t Q u k b).1 i = false) := by
  have hp := h.2.2.1
  have n2 := hp.nb
  obtain ⟨x1, y1, hA⟩ := h.2.2.2.1
  obtain ⟨x2, y2, hB⟩ := h.2.2.2.2
  intro t
  induction t with
  | zero => intro b u; exact ⟨rfl, rfl, rfl, fun _ i _ => b_0 i⟩
  | succ t ih =>
    intro b u
    rw [f_Bus_unlikeWithout_107, f_Mod_lostBy_61, ← n2.1]
    by_cases q : pN P 30 3 ≤ b
    · rw [if_pos q, if_pos q]; exact ⟨rfl, rfl, rfl, fun z => z⟩
    rw [if_neg q, if_neg q, hA.gb (k := b) (j := 1) (by omega) (by omega), hB.gb (k := b) (j := 1) (by omega) (by omega)]
    by_cases q2 : V 0 (210 + 8 * b + 1) = V 0 (420 + 8 * b + 1)
    · rw [if_pos q2, if_pos q2]; exact ih _ _
    · rw [if_neg q2, if_neg q2]
      obtain ⟨i1, i2, i3, i4⟩ := ih (b + 1) (u ||| ((1 : Int32) <<< ((nI b) &&& 31)))
      refine ⟨i1, i2, i3, fun hu => i4 (fun i hi => ?_)⟩
      by_cases z : i < 32
      · rw [or_bt z (by omega), hu i hi, decide_eq_false (by omega)]; rfl
      · exact b_big (by omega)
theorem un_70 {P Z W : Zf} {x y : Int32} {n d : Nat} : ∀ (t k : Nat) (u : Int32) (Q V : Zf), T2 P Z W Q V → (∀ i, pN P 30 3 ≤ i → bt u i = false) → (f_Bus_unlikeWithout_70 P x n y t Q u k).1 = (f_Mod_lostBy_38 d n t V u k).1 ∧ Zfr Z (f_Bus_unlikeWithout_70 P x n y t Q u k).2 ∧ Wfs W (f_Mod_lostBy_38 d n t V u k).2 ∧ ∀ i, pN P 30 3 ≤ i → bt (f_Bus_unlikeWithout_70 P x n y t Q u k).1 i = false := by
  intro t
  induction t with
  | zero => intro k u Q V h hu; exact ⟨rfl, h.1, h.2.1, fun i _ => b_0 i⟩
  | succ t ih =>
    intro k u Q V h hu
    rw [f_Bus_unlikeWithout_70, f_Mod_lostBy_38]
    by_cases q : n ≤ k
    · rw [if_pos q, if_pos q]; exact ⟨rfl, h.1, h.2.1, hu⟩
    rw [if_neg q, if_neg q]
    have h1 := h.cyc
    obtain ⟨i1, i2, i3, i4⟩ := un_107 (x := x) (y := y) (n := n) (d := d) (k := k) h1 11 0 u
    rw [i1, i2, ← i3]
    exact ih _ _ _ _ h1 (i4 hu)
/-- all that lost compares -/
theorem un_all {P Q V : Zf} {r0 : Nat → Int32} {x y o : Int32} {n d : Nat} (hc : CX P V 0 r0 x y (upd (Q 302) 224 o) (V 0)) (hp : PK P V) (ho : P 30 2 = V 100 23 ∧ 0 ≤ (P 30 2).toInt) (hd : d < pN P 30 0) : (f_Bus_unlikeWithout P (nI d) n o Q).1 = (f_Mod_lostBy d n V).1 ∧ Zfr Q (f_Bus_unlikeWithout P (nI d) n o Q).2 ∧ Wfs V (f_Mod_lostBy d n V).2 ∧ ∀ i, pN P 30 3 ≤ i → bt (f_Bus_unlikeWithout P (nI d) n o Q).1 i = false := by
  unfold f_Bus_unlikeWithout f_Mod_lostBy f_Bus_unlikeWithout_64 f_Mod_lostBy_33
  have e3 : u2 (va_up Q 503 (Q 302)) 503 224 o 503 = upd (Q 302) 224 o := by rw [u2_e, up_same]
  rw [e3]
  generalize hQ1 : va_up (u2 (va_up Q 503 (Q 302)) 503 224 o) 501 (upd (Q 302) 224 o) = Q1
  have q1 : Q1 501 = upd (Q 302) 224 o := by rw [← hQ1, up_same]
  have q3 : Q1 503 = upd (Q 302) 224 o := by rw [← hQ1, up_ne (by decide) rfl, e3]
  have zq : Zfr Q Q1 := by rw [← hQ1]; exact ((Zfr.rf.up (by omega)).u2 (by omega)).up (by omega)
  clear hQ1
  unfold f_Mod_tries
  rw [up_same]
  generalize hf : f_Mod_copies (va_up V 0 (f_Mod_copies V 0 210 210 (V 0))) 0 420 210 (f_Mod_copies V 0 210 210 (V 0)) = f
  have f0 : ∀ i, i < 210 ∨ 630 ≤ i → f i = V 0 i := fun i hi => by rw [← hf, cp_out (by omega) _ (by omega), cp_out (by omega) _ (by omega)]
  have f1 : ∀ i, i < 210 → f (210 + i) = V 0 i := fun i hi => by rw [← hf, cp_out (by omega) _ (by omega), cp_in (by omega) _ hi, Nat.zero_add]
  have f2 : ∀ i, i < 210 → f (420 + i) = V 0 i := fun i hi => by rw [← hf, cp_in (by omega) _ hi, Nat.zero_add, cp_out (by omega) _ (by omega)]
  clear hf
  rw [show va_up (va_up V 0 (f_Mod_copies V 0 210 210 (V 0))) 0 f = va_up V 0 f from up_up _ _ _ _]
  have wq : Wfs V (va_up V 0 f) := Wfs.rf.up f0
  have A : CX P (va_up V 0 f) 210 f x y (upd (Q 302) 224 o) f := CX.up (hc.cp (V := V) f1)
  have B : CX P (va_up V 0 f) 420 f x y (upd (Q 302) 224 o) f := CX.up (hc.cp (V := V) f2)
  have hpu : PK P (va_up V 0 f) := hp.up
  rw [up_same, q1]
  have on : f_State_isOn (upd (Q 302) 224 o) (nI d) = f_Mod_isOn (va_up V 0 f) 0 d f := by
    unfold f_State_isOn
    rw [cx_on hc]
    unfold f_Mod_isOn
    rw [f0 _ (by omega)]
  rw [on]
  by_cases q : f_Mod_isOn (va_up V 0 f) 0 d f = 0
  · rw [if_pos q, if_pos q]
    refine un_70 31 0 0 _ _ ⟨zq, wq, hpu, ⟨x, y, ?_⟩, x, y, ?_⟩ (fun i _ => b_0 i)
    · rw [q3, up_same]; exact A
    · rw [q1, up_same]; exact B
  · rw [if_neg q, if_neg q]
    obtain ⟨y', hp2⟩ := cx_power (v := 0) B hpu (by rw [up_ne (by decide) rfl]; exact ho) hd
    rw [show nI 0 = 0 by decide]
    generalize f_Mod_powers (va_up V 0 f) 420 (nI d) 0 f = g at *
    refine un_70 31 0 0 _ _ ⟨zq.up (by omega), wq.up (fun i hi => by rw [up_same]; exact hp2.fr (by omega)), hpu.up, ⟨x, y, ?_⟩, x, y', ?_⟩ (fun i _ => b_0 i)
    · rw [up_same, up_ne (show 503 ≠ 501 by decide) rfl, q3]
      exact CX.up (A.re (fun i a b => hp2.fr (by omega)))
    · rw [up_same, up_same]
      exact CX.up (hp2.re (fun _ _ _ => rfl))
theorem u2_id {W : Zf} {k i : Nat} {o : Int32} (h : W k i = o) : u2 W k i o = W := by
  unfold u2
  rw [← h, ud_id]
  exact up_self rfl
theorem e_lost : E_lost RelW := by
  intro x y S P Y Z W h
  have h0 := h.u0
  have hz : u2 W 100 18 0 100 18 = 0 := u2_s
  have hp := h0.2.2.1.1
  have hx := h0.2.2.1.2
  have hc := h0.cx
  have n3 := hp.nd
  show sameX 2 1 (f_Bus_lost P x y Z).1 (f_Mod_lost x y W) ∧ RelW S P Y (ct (f_Bus_lost P x y Z).2 Z) (f_Mod_lost x y W).2
  unfold f_Mod_lost
  have ew : pN W 100 19 = pN (u2 W 100 18 0) 100 19 := by unfold pN; rw [u2_i (by decide) rfl]
  rw [ew]
  generalize u2 W 100 18 0 = V at *
  unfold f_Bus_lost
  have i10 : ¬ (1 : Int32) = 0 := by decide
  have keep : ∀ {v : Int32}, RelW S P Y (ct Z Z) (u2 V 100 18 v) := fun {v} => by rw [ct_id (fun _ _ => rfl)]; exact h0.w (Wfr.rf.u1 (by omega))
  rcases id_eq2 (x := x) hp with ⟨a1, a2⟩ | ⟨a1, a2, m, hm, rfl⟩
  · rw [a1, a2, rt_z hz (by decide)]
    simp only [if_true]
    exact ⟨sx_n1, keep⟩
  · rw [a1, a2, rt_1 hz i10, nI_clamp (by omega)]
    simp only [if_neg i10]
    rcases wk_of (y := y) (a := 1) (n := 30) (by decide) (by decide) with ⟨a, b⟩ | ⟨a, b, n, -, hn, rfl⟩
    · rw [a, rt_z hz (by decide), if_neg b]
      simp only [if_true]
      exact ⟨sx_i2, keep⟩
    · rw [a, rt_1 hz i10, if_pos b, nI_clamp (by omega)]
      simp only [if_neg i10]
      unfold f_Bus_lost_23 f_Mod_lost_41
      have e22 : V 100 22 = Z 302 224 := hc.1.2.2.2.1.symm
      have hA : CX P V 0 (V 0) (V 0 209) (Z 302 221) (upd (Z 302) 224 (Z 302 224)) (V 0) := by rw [ud_id]; exact hc
      obtain ⟨f1, f2, f3, -⟩ := un_all (Q := Z) (n := n) hA hp ⟨hx.1.2.2.1, hx.1.2.2.2⟩ hm
      exact ⟨by rw [f1]; exact sx_v (f3.2.trans hz) rfl, h0.fr f2.ct f3.1⟩
theorem ow_4 {Z : Zf} {d : Nat} (hn : pN Z 100 20 ≤ 10) : ∀ (t b : Nat) (u : Int32), 10 - b < t → ∀ i, i < 32 → (bt (f_Mod_ownOf_4 d t Z u b) i = true ↔ bt u i = true ∨ (b ≤ i ∧ i < pN Z 100 20 ∧ pN Z 1 i = d)) := by
  intro t
  induction t with
  | zero => intro b u h; omega
  | succ t ih =>
    intro b u h i hi
    rw [f_Mod_ownOf_4]
    by_cases q : pN Z 100 20 ≤ b
    · rw [if_pos q]
      exact ⟨fun z => Or.inl z, fun z => z.resolve_right (fun w => by omega)⟩
    rw [if_neg q]
    by_cases q2 : pN Z 1 b = d
    · rw [if_pos q2, ih (b + 1) _ (by omega) i hi, or_bt_of hi (by omega)]
      refine ⟨fun z => ?_, fun z => ?_⟩
      · rcases z with (z | z) | z
        · exact Or.inl z
        · subst z; exact Or.inr ⟨by omega, by omega, q2⟩
        · exact Or.inr ⟨by omega, z.2.1, z.2.2⟩
      · rcases z with z | z
        · exact Or.inl (Or.inl z)
        · by_cases e : i = b
          · exact Or.inl (Or.inr e)
          · exact Or.inr ⟨by omega, z.2.1, z.2.2⟩
    · rw [if_neg q2, ih (b + 1) _ (by omega) i hi, b_or, b_0, Bool.or_false]
      refine ⟨fun z => ?_, fun z => ?_⟩
      · rcases z with z | z
        · exact Or.inl z
        · exact Or.inr ⟨by omega, z.2.1, z.2.2⟩
      · rcases z with z | z
        · exact Or.inl z
        · refine Or.inr ⟨?_, z.2.1, z.2.2⟩
          by_cases e : i = b
          · subst e; exact absurd z.2.2 q2
          · omega
theorem ot_29 {P : Zf} {x : Int32} (hn : pN P 30 3 ≤ 10) : ∀ (t b : Nat) (u : Int32) (Z : Zf), 10 - b < t → (f_Bus_toRide_29 P t Z x u b).2 = Z ∧ ∀ i, i < 32 → (bt (f_Bus_toRide_29 P t Z x u b).1 i = true ↔ bt u i = true ∨ (b ≤ i ∧ i < pN P 30 3 ∧ ¬ P 1 i = x)) := by
  intro t
  induction t with
  | zero => intro b u Z h; omega
  | succ t ih =>
    intro b u Z h
    rw [f_Bus_toRide_29]
    by_cases q : pN P 30 3 ≤ b
    · rw [if_pos q]
      exact ⟨rfl, fun i hi => ⟨fun z => Or.inl z, fun z => z.resolve_right (fun w => by omega)⟩⟩
    rw [if_neg q]
    by_cases q2 : P 1 b = x
    · rw [if_pos q2]
      obtain ⟨i1, i2⟩ := ih (b + 1) u Z (by omega)
      refine ⟨i1, fun i hi => ?_⟩
      rw [i2 i hi]
      refine ⟨fun z => ?_, fun z => ?_⟩
      · rcases z with z | z
        · exact Or.inl z
        · exact Or.inr ⟨by omega, z.2.1, z.2.2⟩
      · rcases z with z | z
        · exact Or.inl z
        · refine Or.inr ⟨?_, z.2.1, z.2.2⟩
          by_cases e : i = b
          · subst e; exact absurd q2 z.2.2
          · omega
    · rw [if_neg q2]
      obtain ⟨i1, i2⟩ := ih (b + 1) (u ||| ((1 : Int32) <<< ((nI b) &&& 31))) Z (by omega)
      refine ⟨i1, fun i hi => ?_⟩
      rw [i2 i hi, or_bt_of hi (by omega)]
      refine ⟨fun z => ?_, fun z => ?_⟩
      · rcases z with (z | z) | z
        · exact Or.inl z
        · subst z; exact Or.inr ⟨by omega, by omega, q2⟩
        · exact Or.inr ⟨by omega, z.2.1, z.2.2⟩
      · rcases z with z | z
        · exact Or.inl (Or.inl z)
        · by_cases e : i = b
          · exact Or.inl (Or.inr e)
          · exact Or.inr ⟨by omega, z.2.1, z.2.2⟩
theorem bt_e {x y : Int32} {i : Nat} (h : bt x i = true ↔ bt y i = true) : bt x i = bt y i := by
  cases a : bt x i <;> cases b : bt y i
  · rfl
  · exact absurd (h.mpr b) (by rw [a]; decide)
  · exact absurd (h.mp a) (by rw [b]; decide)
  · rfl
theorem mk_eq {P V : Zf} {d : Nat} {u o : Int32} (hp : PK P V) (hd : d < 5) (hu : ∀ i, pN P 30 3 ≤ i → bt u i = false) (ho : ∀ i, i < 32 → (bt o i = true ↔ i < pN P 30 3 ∧ ¬ P 1 i = nI d)) : u &&& o = u &&& (f_Mod_ownOf d V ^^^ -1) := by
  have n2 := hp.nb
  refine b_ext (fun i hi => ?_)
  rw [b_and, b_and, b_xor, b_m1 i hi, Bool.xor_true]
  by_cases q : pN P 30 3 ≤ i
  · rw [hu i q, Bool.false_and, Bool.false_and]
  · congr 1
    have ow := ow_4 (Z := V) (d := d) (by omega) 11 0 0 (by omega) i hi
    have o2 := ho i hi
    have e1 : P 1 i = nI (pN P 1 i) ∧ pN P 1 i < 5 := hp.wP.1.2.1 i
    have e2 : pN P 1 i = pN V 1 i := hp.dv (by omega)
    have dd : P 1 i = nI d ↔ pN V 1 i = d := by
      rw [e1.1, ← e2]; exact nI_eq (by omega) (by omega)
    show bt o i = !bt (f_Mod_ownOf_4 d 11 V 0 0) i
    rw [b_0] at ow
    by_cases z : pN V 1 i = d
    · have a : bt (f_Mod_ownOf_4 d 11 V 0 0) i = true := ow.mpr (Or.inr ⟨by omega, by omega, z⟩)
      have b : ¬ bt o i = true := fun w => (o2.mp w).2 (dd.mpr z)
      rw [a]
      cases c : bt o i with
      | false => rfl
      | true => exact absurd c b
    · have a : ¬ bt (f_Mod_ownOf_4 d 11 V 0 0) i = true := fun w => by
        rcases ow.mp w with w | w
        · exact absurd w (by decide)
        · exact z w.2.2
      have b : bt o i = true := o2.mpr ⟨by omega, fun w => z (dd.mp w)⟩
      rw [b]
      cases c : bt (f_Mod_ownOf_4 d 11 V 0 0) i with
      | false => rfl
      | true => exact absurd c a
theorem own_cg {V U : Zf} {d : Nat} (h20 : U 100 20 = V 100 20) (h1 : U 1 = V 1) : f_Mod_ownOf d U = f_Mod_ownOf d V := by
  unfold f_Mod_ownOf
  have key : ∀ t u b, f_Mod_ownOf_4 d t U u b = f_Mod_ownOf_4 d t V u b := by
    intro t
    induction t with
    | zero => intro u b; rfl
    | succ t ih =>
      intro u b
      rw [f_Mod_ownOf_4, f_Mod_ownOf_4, ih, ih, show pN U 100 20 = pN V 100 20 by unfold pN; rw [h20], show pN U 1 b = pN V 1 b by unfold pN; rw [h1]]
  exact key _ _ _
/-- all but how old is too old -/
def W22 (W V : Zf) : Prop := ∃ o, Wfs (u2 W 100 22 o) V
theorem W22.nx {W V : Zf} (h : W22 W V) (o : Int32) : Wfs (u2 W 100 22 o) (u2 V 100 22 o) := by
  obtain ⟨p, ⟨h1, h2, h3⟩, h4⟩ := h
  refine ⟨⟨fun k a b c d => ?_, fun i a b c => ?_, fun i hi => ?_⟩, ?_⟩
  · rw [u2_k b, u2_k b, h1 k a b c d, u2_k b]
  · by_cases e : i = 22
    · subst e; rw [u2_s, u2_s]
    · rw [u2_i e rfl, u2_i e rfl, h2 i a b c, u2_i e rfl]
  · rw [u2_k (by decide), u2_k (by decide), h3 i hi, u2_k (by decide)]
  · rw [u2_i (by decide) rfl, u2_i (by decide) rfl, h4, u2_i (by decide) rfl]
theorem rd_lp {P Z W : Zf} {x y m : Int32} {d : Nat} (hc : CX P W 0 (W 0) x y (Z 302) (W 0)) (hp : PK P W) (hx : PX P W) (hd : d < pN P 30 0) (ho : ∀ i, i < 32 → (bt m i = true ↔ i < pN P 30 3 ∧ ¬ P 1 i = nI d)) : ∀ (t k : Nat) (Q V : Zf), 10 - k < t → 1 ≤ k → k ≤ 10 → Zfr Z Q → W22 W V → (f_Bus_toRide_67 P t Q (nI d) m k).1 = (f_Mod_toRide_31 t V d (W 100 22) (-1) k).1 ∧ Zfr Z (f_Bus_toRide_67 P t Q (nI d) m k).2 ∧ Wfs W (f_Mod_toRide_31 t V d (W 100 22) (-1) k).2 := by
  have n3 := hp.nd
  have fin : ∀ V : Zf, W22 W V → Wfs W (u2 V 100 22 (W 100 22)) := fun V hV => by
    have := hV.nx (W 100 22)
    rw [u2_id (W := W) rfl] at this
    exact this
  intro t
  induction t with
  | zero => intro k Q V h; omega
  | succ t ih =>
    intro k Q V h hk1 hk hz hw
    rw [f_Bus_toRide_67, f_Mod_toRide_31]
    by_cases q : 9 < k
    · rw [if_pos q, if_pos q]; exact ⟨rfl, hz, fin V hw⟩
    rw [if_neg q, if_neg q, if_pos rfl]
    have w1 := hw.nx (nI k)
    generalize hV1 : u2 V 100 22 (nI k) = V1 at *
    have hp1 : PK P V1 := hp.cg (fun j hj => by rw [w1.1.1 j (by omega) (by omega) (by omega) (by omega), u2_k (by omega)]) (fun i hi => by rw [w1.1.2.1 i (by omega) (by omega) (by omega), u2_i (by omega) rfl])
    have hA : CX P V1 0 (V1 0) x y (upd (Q 302) 224 (nI k)) (V1 0) := by
      have h1 := (hc.re (s := V1 0) (fun i a b => by rw [w1.1.2.2 i (by omega), u2_k (by decide)])).old (nI k)
      rw [hz 302 (by omega)]
      exact h1.cg4 hp.nb.2 (by rw [w1.1.2.1 44 (by decide) (by decide) (by decide), u2_i (by decide) rfl]; exact hx.1.1) (by rw [u2_i (by decide) rfl]; exact hx.1.1) (w1.1.2.1 22 (by decide) (by decide) (by decide)) (w1.1.1 4 (by decide) (by decide) (by decide) (by decide))
    have ho1 : P 30 2 = V1 100 23 ∧ 0 ≤ (P 30 2).toInt := ⟨by rw [w1.1.2.1 23 (by decide) (by decide) (by decide), u2_i (by decide) rfl]; exact hx.1.2.2.1, hx.1.2.2.2⟩
    obtain ⟨f1, f2, f3, f4⟩ := un_all (Q := Q) (n := 20) hA hp1 ho1 hd
    have mm := mk_eq (V := V1) hp1 (by omega) f4 ho
    rw [own_cg (V := V1) (f3.1.2.1 20 (by decide) (by decide) (by decide)) (f3.1.1 1 (by decide) (by decide) (by decide) (by decide)), ← f1, ← mm]
    have hz2 := hz.tr f2
    have hw2 : W22 W (f_Mod_lostBy d 20 V1).2 := ⟨nI k, w1.tr f3⟩
    by_cases q2 : (f_Bus_unlikeWithout P (nI d) 20 (nI k) Q).1 &&& m = 0
    · rw [if_pos q2, if_pos q2]
      have hne : ¬ nI k = -1 := m1_ne (by omega)
      have : f_Mod_toRide_31 t (f_Mod_lostBy d 20 V1).2 d (W 100 22) (nI k) (k + 1) = (nI k, u2 (f_Mod_lostBy d 20 V1).2 100 22 (W 100 22)) := by
        cases t with
        | zero => omega
        | succ t =>
          rw [f_Mod_toRide_31]
          by_cases z : 9 < k + 1
          · rw [if_pos z]
          · rw [if_neg z, if_neg hne]
      rw [this]
      exact ⟨rfl, hz2, fin _ hw2⟩
    · rw [if_neg q2, if_neg q2]
      exact ih (k + 1) _ _ (by omega) (by omega) (by omega) hz2 hw2
theorem e_toRide : E_toRide RelW := by
  intro S P Y Z W h
  have h0 := h.u0
  have hp := h0.2.2.1.1
  have hx := h0.2.2.1.2
  have hc := h0.cx
  have n3 := hp.nd
  show (f_Bus_toRide P Z).1 = (f_Mod_toRide W).1 ∧ RelW S P Y (ct (f_Bus_toRide P Z).2 Z) (f_Mod_toRide W).2
  unfold f_Mod_toRide
  generalize u2 W 100 18 0 = V at *
  unfold f_Bus_toRide
  have s6 : Z 302 221 = V 0 206 := hc.gs (i := 221) (j := 206) (by decide) (by decide) rfl
  rw [← s6]
  rcases hc.b221 with e | ⟨d, hd, e⟩
  · rw [e, if_pos rfl]
    have : f_Bus_isDevice P (-1) = 0 := by unfold f_Bus_isDevice; rw [if_pos (by decide)]
    rw [if_pos this]
    exact ⟨rfl, by rw [ct_id (fun _ _ => rfl)]; exact h0⟩
  · have hne : ¬ nI d = -1 := m1_ne (by omega)
    rw [e, if_neg hne, nI_clamp (by omega)]
    have : ¬ f_Bus_isDevice P (nI d) = 0 := by
      unfold f_Bus_isDevice
      rw [if_neg (nI_pos (by omega)), if_neg (nI_ge hd (by omega))]; decide
    rw [if_neg this]
    obtain ⟨o1, o2⟩ := ot_29 (P := P) (x := nI d) hp.nb.2 11 0 0 Z (by omega)
    rw [o1]
    unfold f_Mod_toRide_21
    have W0 : W22 V V := ⟨V 100 22, by rw [u2_id (W := V) rfl]; exact Wfs.rf⟩
    obtain ⟨f1, f2, f3⟩ := rd_lp (m := (f_Bus_toRide_29 P 11 Z (nI d) 0 0).1) hc hp hx hd (fun i hi => by
      rw [o2 i hi, b_0]
      exact ⟨fun z => (z.resolve_left (by decide)).2, fun z => Or.inr ⟨by omega, z⟩⟩) 10 1 Z V (by omega) (by omega) (by omega) Zfr.rf W0
    exact ⟨f1, h0.fr f2.ct f3.1⟩
