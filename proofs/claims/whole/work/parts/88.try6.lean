/-! years, alike on both sides -/
def YR (P Z W Q V : Zf) : Prop := (Zfr Z Q ∧ Wfs W V ∧ PK P V ∧ PX P V) ∧ Q 504 1 = V 100 75 ∧ ∃ x y, CX P V 210 (V 0) x y (Q 501) (V 0) ∧ Q 504 0 = x - W 0 209
theorem YR.dr {P Z W Q V : Zf} {n : Nat} (h : YR P Z W Q V) (h0 : 0 < n) (hn : n < 32768) : drN P n Q = drM n V ∧ drM n V < n ∧ YR P Z W (f_Years_draw P (nI n) Q).2 (f_Mod_draw n V).2 := by
  obtain ⟨⟨h1, h2, h3, h4⟩, h5, x, y, h6, h7⟩ := h
  have ng : ¬ nI n ≤ 0 := nI_nle h0 (by omega)
  obtain ⟨d1, d2⟩ := drM_of (Z := V) h0 hn
  refine ⟨?_, d2, ?_⟩
  · unfold drN drM f_Years_draw f_Mod_draw
    rw [if_neg ng, u2_s, u2_s, h5]
  · unfold f_Years_draw f_Mod_draw
    rw [if_neg ng, h5]
    show YR P Z W (u2 Q 504 1 (V 100 75 * 1103515245 + 12345)) (u2 V 100 75 (V 100 75 * 1103515245 + 12345))
    generalize V 100 75 * 1103515245 + 12345 = s
    refine ⟨⟨h1.u2 (by omega), h2.u1 (by omega), ?_, ?_⟩, by rw [u2_s, u2_s], x, y, ?_, ?_⟩
    · exact h3.cg (fun k hk => u2_k (by omega)) (fun i hi => u2_i (by omega) rfl)
    · exact h4.cg (fun k hk => u2_k (by omega)) (fun i hi => u2_i (by omega) rfl)
    · rw [u2_k (by decide), u2_k (by decide)]
      exact h6.cgW (u2_i (by decide) rfl) (u2_i (by decide) rfl) (u2_i (by decide) rfl) (u2_k (by decide))
    · rw [u2_i (by decide) rfl]; exact h7
theorem YR.of {P Z W Q V : Zf} (h : YR P Z W Q V) {c f : Nat → Int32} (hc : ∀ x y, CX P V 210 (V 0) x y (Q 501) (V 0) → ∃ y', CX P V 210 (V 0) x y' c f) : YR P Z W (va_up Q 501 c) (va_up V 0 f) := by
  obtain ⟨⟨h1, h2, h3, h4⟩, h5, x, y, h6, h7⟩ := h
  obtain ⟨y', g⟩ := hc x y h6
  refine ⟨⟨h1.up (by omega), h2.up (fun i hi => g.fr (by omega)), h3.up, h4.cg (fun k hk => up_ne (by omega) rfl) (fun i hi => by rw [up_ne (by decide) rfl])⟩, ?_, x, y', ?_, ?_⟩
  · rw [up_ne (by decide) rfl, up_ne (by decide) rfl]; exact h5
  · rw [up_same, up_same]
    exact CX.up (g.re (fun _ _ _ => rfl))
  · rw [up_ne (by decide) rfl]; exact h7
theorem i_ac (x w : Int32) : x + 1 - w = x - w + 1 := by
  rw [Int32.sub_eq_add_neg, Int32.sub_eq_add_neg, Int32.add_assoc, Int32.add_comm 1 (-w), ← Int32.add_assoc]
theorem ps_lp {P V : Zf} {n : Nat} {r0 : Nat → Int32} {w : Int32} (hp : PK P V) : ∀ (t s k : Nat) (Q : Zf) (r : Nat → Int32) (x y : Int32), n - k < t → n - k < s → CX P V 210 r0 x y (Q 501) r → Q 504 0 = x - w → ∃ x' y', CX P V 210 r0 x' y' (f_Years_passSome_3 P n t Q k 501) (f_Mod_goes_2 V 210 n s r k) ∧ f_Years_passSome_3 P n t Q k 504 0 = x' - w ∧ f_Years_passSome_3 P n t Q k 504 1 = Q 504 1 ∧ Zfr Q (f_Years_passSome_3 P n t Q k) := by
  intro t
  induction t with
  | zero => intro s k Q r x y h; omega
  | succ t ih =>
    intro s k Q r x y ht hs hc hq
    cases s with
    | zero => omega
    | succ s =>
      rw [f_Years_passSome_3, f_Mod_goes_2]
      by_cases q : n ≤ k
      · rw [if_pos q, if_pos q]; exact ⟨x, y, hc, hq, rfl, Zfr.rf⟩
      rw [if_neg q, if_neg q]
      obtain ⟨x', y', hc1, ex⟩ := cx_cycle hc hp
      have sy : Q 501 221 = y := hc.2.2.2
      have sy' : f_Cycle_goBy P (Q 501) 221 = y' := hc1.2.2.2
      rw [up_same, sy, sy']
      have z1 : Zfr Q (va_up Q 501 (f_Cycle_goBy P (Q 501))) := Zfr.rf.up (by omega)
      have go : ∀ Q1 : Zf, Q1 501 = f_Cycle_goBy P (Q 501) → Q1 504 0 = x' - w → Q1 504 1 = Q 504 1 → Zfr Q Q1 → ∃ x' y', CX P V 210 r0 x' y' (f_Years_passSome_3 P n t Q1 (k + 1) 501) (f_Mod_goes_2 V 210 n s (f_Mod_cycle V 210 r) (k + 1)) ∧ f_Years_passSome_3 P n t Q1 (k + 1) 504 0 = x' - w ∧ f_Years_passSome_3 P n t Q1 (k + 1) 504 1 = Q 504 1 ∧ Zfr Q (f_Years_passSome_3 P n t Q1 (k + 1)) := by
        intro Q1 e1 e2 e3 e4
        obtain ⟨x2, y2, i1, i2, i3, i4⟩ := ih s (k + 1) Q1 _ x' y' (by omega) (by omega) (by rw [e1]; exact hc1) e2
        exact ⟨x2, y2, i1, i2, i3.trans e3, e4.tr i4⟩
      by_cases q1 : y = -1
      · rw [if_pos q1]
        rw [if_pos q1] at ex
        by_cases q2 : y' = -1
        · rw [if_pos q2]
          rw [if_pos q2] at ex
          exact go _ up_same (by rw [up_ne (by decide) rfl, hq, ex]) (by rw [up_ne (by decide) rfl]) z1
        · rw [if_neg q2]
          rw [if_neg q2] at ex
          refine go _ (by rw [u2_k (by decide), up_same]) ?_ (by rw [u2_i (by decide) rfl, up_ne (by decide) rfl]) (z1.u2 (by omega))
          rw [u2_s, up_ne (by decide) rfl, hq, ex, i_ac]
      · rw [if_neg q1]
        rw [if_neg q1] at ex
        exact go _ up_same (by rw [up_ne (by decide) rfl, hq, ex]) (by rw [up_ne (by decide) rfl]) z1
theorem YR.ps {P Z W Q V : Zf} {n : Nat} (h : YR P Z W Q V) (hn : n < 31) : YR P Z W (f_Years_passSome P n Q) (va_up V 0 (f_Mod_goes V 210 n (V 0))) := by
  obtain ⟨⟨h1, h2, h3, h4⟩, h5, x, y, h6, h7⟩ := h
  unfold f_Years_passSome f_Mod_goes
  obtain ⟨x', y', i1, i2, i3, i4⟩ := ps_lp (n := n) (w := W 0 209) h3 31 61 0 Q (V 0) x y (by omega) (by omega) h6 h7
  refine ⟨⟨h1.tr i4, h2.up (fun i hi => i1.fr (by omega)), h3.up, h4.cg (fun k hk => up_ne (by omega) rfl) (fun i hi => by rw [up_ne (by decide) rfl])⟩, ?_, x', y', ?_, i2⟩
  · rw [i3, h5, up_ne (by decide) rfl]
  · rw [up_same]
    exact CX.up (i1.re (fun _ _ _ => rfl))
theorem wi_in {b n : Nat} (h : b < n) (hn : n < 2 ^ 20) : ¬ f_Mod_within (nI b) (nI 0) (nI n - 1) = 0 := by
  rcases wi_ca (x := nI b) (n := n) (by omega) with ⟨-, z⟩ | ⟨z, -⟩
  · rcases z with z | ⟨-, z⟩
    · exact absurd z (nI_pos (by omega))
    · exact absurd z (nI_ge h (by omega))
  · rw [z]; decide
theorem YR.tell {P Z W Q V : Zf} {w : Nat} (h : YR P Z W Q V) (hb : 0 < pN P 30 3) (hw : w = 2 ∨ w = 5) : YR P Z W (f_Years_tellBlock P (if w = 2 then 1 else 0) Q) (f_Mod_year_103 V w) := by
  have n2 := h.1.2.2.1.nb
  obtain ⟨b1, b0, B⟩ := h.dr (n := pN V 100 20) (by omega) (by omega)
  unfold f_Years_tellBlock f_Mod_year_103
  rw [n2.1]
  generalize hQ1 : (f_Years_draw P (nI (pN V 100 20)) Q).2 = Q1 at *
  generalize hV1 : (f_Mod_draw (pN V 100 20) V).2 = V1 at *
  rw [b1]
  generalize drM (pN V 100 20) V = b at *
  have b2 : b < pN P 30 3 := by omega
  have hb10 : b < 10 := by omega
  rcases hw with rfl | rfl
  · rw [if_pos rfl, if_neg (show ¬ (1 : Int32) = 0 by decide), if_pos rfl]
    obtain ⟨c1, c2, C⟩ := B.dr (n := 4) (by decide) (by decide)
    rw [c1]
    generalize (f_Years_draw P (nI 4) Q1).2 = Q2 at *
    generalize (f_Mod_draw 4 V1).2 = V2 at *
    generalize drM 4 V1 = v at *
    obtain ⟨x, y, hc, -⟩ := C.2.2
    have hp := C.1.2.2.1
    have e20 : pN V2 100 20 = pN P 30 3 := hp.nb.1.symm
    unfold f_Mod_year_139 f_Mod_year_171 f_Mod_canTarget
    obtain ⟨k1, k2⟩ := can_eq (m := nI b) (v := nI v) hc hp b2
    rw [if_pos rfl, e20, if_neg (wi_in b2 (by omega)), nI_clamp (by omega), ← k1]
    simp only [if_neg (show ¬ (2 : Nat) = 5 by decide)]
    by_cases q : f_State_canTell P (Q2 501) b (nI v) = 0
    · rw [if_pos q, if_pos q]; exact C
    · rw [if_neg q, if_neg q]
      exact C.of (fun x y g => ⟨y, g.pb hb10 (j := 0) (by omega) rfl (bd_m hb10 (by omega) (k2 q))⟩)
  · rw [if_neg (show ¬ (5 : Nat) = 2 by decide), if_pos rfl, if_neg (show ¬ (5 : Nat) = 2 by decide)]
    obtain ⟨c1, c2, C⟩ := B.dr (n := 1001) (by decide) (by decide)
    rw [c1]
    generalize (f_Years_draw P (nI 1001) Q1).2 = Q2 at *
    generalize (f_Mod_draw 1001 V1).2 = V2 at *
    generalize drM 1001 V1 = v at *
    obtain ⟨x, y, hc, -⟩ := C.2.2
    have hp := C.1.2.2.1
    have e20 : pN V2 100 20 = pN P 30 3 := hp.nb.1.symm
    unfold f_Mod_year_139 f_Mod_year_171 f_Mod_byHand f_Years_tellBlock_72 f_Mod_year_182
    rw [if_neg (show ¬ (5 : Nat) = 2 by decide), if_pos rfl, e20, if_neg (wi_in b2 (by omega)), nI_clamp (by omega)]
    rcases hd_eq (m := nI b) hc hp b2 with ⟨d1, d2⟩ | ⟨j, hj, d1, d2⟩
    · rw [if_pos d1, if_pos d2]; exact C
    · rw [d1, d2, if_neg (m1_ne (by omega)), if_neg (m1_ne (by omega)), nI_clamp (by omega), nI_clamp (by omega)]
      refine C.of (fun x y g => ⟨y, g.pb hb10 (j := j) (by omega) rfl (bd_o hb10 hj ?_)⟩)
      rw [nI_toInt (by omega)]; omega
theorem YR.yr {P Z W Q V : Zf} {X : Int32} {n t k : Nat} (h : YR P Z W Q V) (hd : 0 < pN P 30 0) (hk : k < n) : ∃ Q', f_Years_play_13 P X n (t + 1) Q k = f_Years_play_13 P X n t Q' (k + 1) ∧ YR P Z W Q' (f_Mod_year V) := by
  have n2 := h.1.2.2.1.nb
  have n3 := h.1.2.2.1.nd
  obtain ⟨a1, a2, A⟩ := h.dr (n := 6) (by decide) (by decide)
  rw [f_Years_play_13, if_neg (by omega), a1]
  unfold f_Mod_year
  generalize drM 6 V = a at *
  generalize (f_Years_draw P (nI 6) Q).2 = Q1 at *
  generalize (f_Mod_draw 6 V).2 = V1 at *
  have m2 := A.1.2.2.1.nb
  have m3 := A.1.2.2.1.nd
  unfold f_Mod_year_7
  by_cases q1 : 1 < a
  · rw [if_pos q1, if_pos (show 2 ≤ a by omega)]
    by_cases q3 : a = 3
    · rw [if_pos q3, if_pos q3, ← m3.1]
      obtain ⟨b1, b2, B⟩ := A.dr (n := pN P 30 0) hd (by omega)
      rw [b1]
      generalize drM (pN P 30 0) V1 = d at *
      generalize (f_Years_draw P (nI (pN P 30 0)) Q1).2 = Q2 at *
      generalize (f_Mod_draw (pN P 30 0) V1).2 = V2 at *
      obtain ⟨x, y, hc, -⟩ := B.2.2
      have hx := B.1.2.2.2
      have e : f_State_isOn (Q2 501) (nI d) = f_Mod_isOn V2 210 d (V2 0) := cx_on hc d
      rw [e, show nI 1 = 1 by decide, show nI 0 = 0 by decide]
      by_cases q : f_Mod_isOn V2 210 d (V2 0) = 0
      · rw [if_pos q, if_pos q]
        exact ⟨_, rfl, B.of (fun x y g => cx_power g B.1.2.2.1 ⟨hx.1.2.2.1, hx.1.2.2.2⟩ b2)⟩
      · rw [if_neg q, if_neg q]
        exact ⟨_, rfl, B.of (fun x y g => cx_power g B.1.2.2.1 ⟨hx.1.2.2.1, hx.1.2.2.2⟩ b2)⟩
    rw [if_neg q3, if_neg q3]
    by_cases q4 : a = 4
    · rw [if_pos q4, if_pos q4]
      obtain ⟨b1, b2, B⟩ := A.dr (n := 4) (by decide) (by decide)
      rw [b1]
      have v0 : (f_Mod_draw 4 V1).2 0 = V1 0 := by show u2 V1 100 75 (V1 100 75 * 1103515245 + 12345) 0 = V1 0; exact u2_k (by decide)
      refine ⟨_, rfl, ?_⟩
      have g := B.of (c := f_State_turnSensor (nI (drM 4 V1)) ((f_Years_draw P (nI 4) Q1).2 501)) (f := upd ((f_Mod_draw 4 V1).2 0) 414 (V1 0 414 ^^^ ((1 : Int32) <<< ((nI (drM 4 V1)) &&& 31)))) (fun x y g => ⟨y, by
        unfold f_State_turnSensor
        refine cx_turn g ?_
        rw [g.gs (i := 219) (j := 210 + 204) (by decide) (by decide) rfl, v0]⟩)
      exact g
    rw [if_neg q4, if_neg q4, m2.1]
    by_cases q0 : nI (pN V1 100 20) ≤ 0
    · rw [if_pos q0, if_pos q0]; exact ⟨_, rfl, A⟩
    · rw [if_neg q0, if_neg q0]
      have hb : 0 < pN P 30 3 := by
        rw [m2.1]
        by_cases z : pN V1 100 20 = 0
        · rw [z] at q0; exact absurd (by decide) q0
        · omega
      by_cases q2 : a = 2
      · rw [if_pos q2, q2]
        have := A.tell (w := 2) hb (Or.inl rfl)
        rw [if_pos rfl] at this
        exact ⟨_, rfl, this⟩
      · rw [if_neg q2, show a = 5 by omega]
        have := A.tell (w := 5) hb (Or.inr rfl)
        rw [if_neg (by decide)] at this
        exact ⟨_, rfl, this⟩
  · rw [if_neg q1, if_neg (show ¬ 2 ≤ a by omega)]
    obtain ⟨b1, b2, B⟩ := A.dr (n := 5) (by decide) (by decide)
    rw [b1]
    exact ⟨_, rfl, B.ps (by omega)⟩
theorem yr_lp {P Z W : Zf} {X a b : Int32} {n : Nat} (hd : 0 < pN P 30 0) : ∀ (t k : Nat) (Q V : Zf), YR P Z W Q V → YR P Z W (f_Years_play_13 P X n t Q k) (f_Mod_years_48 X a b t V n k) := by
  intro t
  induction t with
  | zero => intro k Q V h; exact h
  | succ t ih =>
    intro k Q V h
    by_cases q : n ≤ k
    · rw [f_Years_play_13, f_Mod_years_48, if_pos q, if_pos q]; exact h
    · obtain ⟨Q', e, h'⟩ := h.yr (X := X) (n := n) (t := t) (k := k) hd (by omega)
      rw [e, f_Mod_years_48, if_neg q]
      exact ih _ _ _ h'
theorem sm_lp {P V : Zf} {c : Nat → Int32} {X a b : Int32} {n : Nat} (hc : ∃ x y, CX P V 210 (V 0) x y c (V 0)) (hp : PK P V) : ∀ (t k : Nat) (s : Int32), f_Mod_years_108 X a b t V n s k = (f_State_sumOfOuts_4 c (pN P 30 3) t s k, V) := by
  obtain ⟨x, y, hc⟩ := hc
  have n2 := hp.nb
  intro t
  induction t with
  | zero => intro k s; rfl
  | succ t ih =>
    intro k s
    rw [f_Mod_years_108, f_State_sumOfOuts_4, ← n2.1]
    by_cases q : pN P 30 3 ≤ k
    · rw [if_pos q, if_pos q]
    · rw [if_neg q, if_neg q, ih, hc.gb (k := k) (j := 3) (by omega) (by omega)]
theorem e_years : E_years RelW := by
  intro x y z S P Y Z W h
  have h0 := h.u0
  have hz : u2 W 100 18 0 100 18 = 0 := u2_s
  have hp := h0.2.2.1.1
  have hx := h0.2.2.1.2
  have hc := h0.cx
  show sameX 2 1 (f_Bus_years P x y z Z).1 (f_Mod_years x y z W) ∧ RelW S P Y (ct (f_Bus_years P x y z Z).2 Z) (f_Mod_years x y z W).2
  unfold f_Mod_years
  generalize u2 W 100 18 0 = V at *
  unfold f_Bus_years
  have i10 : ¬ (1 : Int32) = 0 := by decide
  have keep : ∀ {v : Int32}, RelW S P Y (ct Z Z) (u2 V 100 18 v) := fun {v} => by rw [ct_id (fun _ _ => rfl)]; exact h0.w (Wfr.rf.u1 (by omega))
  rcases wj_of (x := z) (n := 2) (by decide) with ⟨a, b⟩ | ⟨a, u, hu, rfl⟩
  · rw [a, rt_z hz (by decide)]
    simp only [if_true]
    rcases b with b | ⟨b, b2⟩
    · rw [if_pos b]; exact ⟨sx_n1, keep⟩
    · have b3 : ¬ z ≤ 2 := fun w => by rw [i_lt, nI_toInt (by decide)] at b2; rw [i_le, t_2] at w; omega
      rw [if_neg b, if_neg b3]; exact ⟨sx_n1, keep⟩
  · have b3 : nI u ≤ 2 := by rw [i_le, t_2, nI_toInt (by omega)]; omega
    rw [a, rt_1 hz i10, if_neg (nI_pos (by omega)), if_pos b3]
    simp only [if_neg i10]
    rcases wk_of (y := y) (a := 0) (n := 30) (by decide) (by decide) with ⟨a, b⟩ | ⟨a, b, n, -, hn, rfl⟩
    · rw [a, rt_z hz (by decide), if_neg b]
      simp only [if_true]
      exact ⟨sx_i2, keep⟩
    · rw [a, rt_1 hz i10, if_pos b, nI_clamp (by omega)]
      simp only [if_neg i10]
      unfold f_Bus_years_24 f_Mod_years_36 f_Years_play
      have T := TR.st (Z := Z) hc hp
      have Y0 : YR P Z V (u2 (u2 (va_up Z 501 (Z 302)) 504 0 0) 504 1 x) (u2 (va_up V 0 (f_Mod_tries V (V 0))) 100 75 x) := by
        obtain ⟨t1, t2, t3, x', y', t4⟩ := T
        refine ⟨⟨(t1.u2 (by omega)).u2 (by omega), t2.u1 (by omega), ?_, ?_⟩, by rw [u2_s, u2_s], x', y', ?_, ?_⟩
        · exact t3.cg (fun k hk => u2_k (by omega)) (fun i hi => u2_i (by omega) rfl)
        · exact hx.cg (fun k hk => by rw [u2_k (by omega), up_ne (by omega) rfl]) (fun i hi => by rw [u2_i (by omega) rfl, up_ne (by decide) rfl])
        · rw [u2_k (by decide), u2_k (by decide), u2_k (by decide)]
          exact t4.cgW (u2_i (by decide) rfl) (u2_i (by decide) rfl) (u2_i (by decide) rfl) (u2_k (by decide))
        · rw [u2_i (by decide) rfl, u2_s, ← t4.2.2.1, up_same]
          unfold f_Mod_tries
          rw [cp_in (by omega) _ (by decide), Nat.zero_add, Int32.sub_self]
      have R := yr_lp (X := x) (a := nI n) (b := nI u) (n := n) h0.1.2.2.2.1 31 0 _ _ Y0
      generalize f_Years_play_13 P x n 31 (u2 (u2 (va_up Z 501 (Z 302)) 504 0 0) 504 1 x) 0 = A at *
      generalize f_Mod_years_48 x (nI n) (nI u) 31 (u2 (va_up V 0 (f_Mod_tries V (V 0))) 100 75 x) n 0 = B at *
      obtain ⟨⟨r1, r2, r3, r4⟩, r5, x', y', r6, r7⟩ := R
      have cs : u = 0 ∨ u = 1 ∨ u = 2 := by omega
      rcases cs with rfl | rfl | rfl
      · rw [if_neg (by decide), if_neg (by decide), if_pos (show nI 0 ≤ 0 by decide), sm_lp ⟨x', y', r6⟩ r3]
        exact ⟨sx_v (r2.2.trans hz) rfl, h0.fr r1.ct r2.1⟩
      · rw [if_pos (show nI 1 = 1 by decide), if_neg (show ¬ nI 1 ≤ 0 by decide), if_pos (show nI 1 = 1 by decide)]
        exact ⟨sx_v (r2.2.trans hz) (r6.gs (i := 220) (j := 415) (by decide) (by decide) rfl).symm, h0.fr r1.ct r2.1⟩
      · rw [if_neg (show ¬ nI 2 = 1 by decide), if_pos (show nI 2 = 2 by decide), if_neg (show ¬ nI 2 ≤ 0 by decide), if_neg (show ¬ nI 2 = 1 by decide)]
        refine ⟨sx_v (r2.2.trans hz) ?_, h0.fr r1.ct r2.1⟩
        show B 0 419 - B 0 209 = A 504 0
        rw [r7, r2.1.2.2 209 (by omega), ← r6.2.2.1]
