/-! causes: fits and look, alike on both sides -/
theorem hi_eq {P V : Zf} {s : Nat} (hp : PK P V) (hs : s < 2 ^ 20) : f_Plan_hasInputOf P (nI s) = f_Mod_hasInput s V := by
  unfold f_Plan_hasInputOf f_Mod_hasInput
  have key : ∀ t k, f_Plan_hasInputOf_2 P (nI s) t k = f_Mod_hasInput_2 s t V k := by
    intro t
    induction t with
    | zero => intro k; rfl
    | succ t ih =>
      intro k
      rw [f_Plan_hasInputOf_2, f_Mod_hasInput_2, ← hp.nb.1, ih]
      by_cases q : pN P 30 3 ≤ k
      · rw [if_pos q, if_pos q]
      · rw [if_neg q, if_neg q, ← hp.kd (by omega)]
        by_cases k0 : pN P 0 k = 0
        · rw [if_pos k0, if_pos k0, (hp.2.2.1 k (by omega)).2.1 k0]
          have e4 := hp.wM.2.2.2.2.2.2.1 k
          have : V 4 k = nI s ↔ pN V 4 k = s := by rw [e4.1]; exact nI_eq (by omega) (by omega)
          by_cases z : pN V 4 k = s
          · rw [if_pos (this.mpr z), if_pos z]
          · rw [if_neg (fun w => z (this.mp w)), if_neg z]
        · rw [if_neg k0, if_neg k0]
  exact key _ _
theorem xo_or {x : Int32} {s : Nat} (hs : s < 32) (h : ¬ bt x s = true) : x ^^^ ((1 : Int32) <<< (nI s &&& 31)) = x ||| ((1 : Int32) <<< (nI s &&& 31)) := by
  refine b_ext (fun i hi => ?_)
  rw [b_xor, b_or]
  by_cases e : i = s
  · subst e
    cases z : bt x i with
    | false => rw [Bool.false_xor, Bool.false_or]
    | true => exact absurd z h
  · have : bt ((1 : Int32) <<< (nI s &&& 31)) i = false := by
      cases z : bt ((1 : Int32) <<< (nI s &&& 31)) i with
      | false => rfl
      | true => exact absurd ((sh_bt hi hs).mp z) e
    rw [this, Bool.xor_false, Bool.or_false]
theorem st_cg {P Z Q : Zf} {c : Nat} (h : Q 302 = Z 302) : (f_Bus_startTrialBy P c Q).1 = (f_Bus_startTrialBy P c Z).1 ∧ (f_Bus_startTrialBy P c Q).2 501 = (f_Bus_startTrialBy P c Z).2 501 ∧ Zfr Q (f_Bus_startTrialBy P c Q).2 := by
  have z1 : Zfr Q (va_up Q 501 (Z 302)) := Zfr.rf.up (by omega)
  unfold f_Bus_startTrialBy
  rw [h, up_same, up_same]
  by_cases q1 : 1 ≤ c
  · rw [if_pos q1, if_pos q1]
    by_cases q6 : 6 ≤ c
    · rw [if_pos q6, if_pos q6]
      by_cases b : f_State_isBroken (Z 302) (nI (c - 6)) = 0
      · rw [if_pos b, if_pos b]
        by_cases i : f_Plan_hasInputOf P (nI (c - 6)) = 0
        · rw [if_pos i, if_pos i]; exact ⟨rfl, by show va_up Q 501 (Z 302) 501 = va_up Z 501 (Z 302) 501; rw [up_same, up_same], z1⟩
        · rw [if_neg i, if_neg i]
          refine ⟨rfl, ?_, z1.up (by omega)⟩
          show va_up (va_up Q 501 (Z 302)) 501 (f_State_turnSensor (nI (c - 6)) (Z 302)) 501 = va_up (va_up Z 501 (Z 302)) 501 (f_State_turnSensor (nI (c - 6)) (Z 302)) 501
          rw [up_same, up_same]
      · rw [if_neg b, if_neg b]; exact ⟨rfl, by show va_up Q 501 (Z 302) 501 = va_up Z 501 (Z 302) 501; rw [up_same, up_same], z1⟩
    · rw [if_neg q6, if_neg q6]
      by_cases b : f_Bus_isDevice P (nI (c - 1)) = 0
      · rw [if_pos b, if_pos b]; exact ⟨rfl, by show va_up Q 501 (Z 302) 501 = va_up Z 501 (Z 302) 501; rw [up_same, up_same], z1⟩
      · rw [if_neg b, if_neg b]
        by_cases i : f_State_isOn (Z 302) (nI (c - 1)) = 0
        · rw [if_pos i, if_pos i]; exact ⟨rfl, by show va_up Q 501 (Z 302) 501 = va_up Z 501 (Z 302) 501; rw [up_same, up_same], z1⟩
        · rw [if_neg i, if_neg i]
          refine ⟨rfl, ?_, z1.up (by omega)⟩
          show va_up (va_up Q 501 (Z 302)) 501 (f_State_switchDevice (nI (c - 1)) 0 (P 30 2) (Z 302)) 501 = va_up (va_up Z 501 (Z 302)) 501 (f_State_switchDevice (nI (c - 1)) 0 (P 30 2) (Z 302)) 501
          rw [up_same, up_same]
  · rw [if_neg q1, if_neg q1]; exact ⟨rfl, by show va_up Q 501 (Z 302) 501 = va_up Z 501 (Z 302) 501; rw [up_same, up_same], z1⟩
/-- a cause that can be, and its trial, on both sides -/
theorem ca_eq {P Z V : Zf} {c : Nat} {r0 : Nat → Int32} {x y : Int32} (hc : CX P V 0 r0 x y (Z 302) (V 0)) (hp : PK P V) (ho : P 30 2 = V 100 23 ∧ 0 ≤ (P 30 2).toInt) (h10 : c < 10) : ((f_Bus_startTrialBy P c Z).1 = 0 ∧ f_Mod_isCause c V = 0) ∨ ((f_Bus_startTrialBy P c Z).1 = 1 ∧ f_Mod_isCause c V = 1 ∧ ∃ U, f_Mod_isNoted c V = f_Mod_isNoted_48 c 21 U 1 1 ∧ Wfs V U ∧ U 74 = V 74 ∧ PK P U ∧ ∃ x y, CX P U 210 (U 0) x y ((f_Bus_startTrialBy P c Z).2 501) (U 0)) := by
  have n3 := hp.nd
  unfold f_Bus_startTrialBy f_Mod_isCause f_Mod_isNoted f_Mod_isNoted_33 f_Mod_isNoted_44
  have f0 : ∀ i, i < 210 ∨ 420 ≤ i → f_Mod_tries V (V 0) i = V 0 i := fun i hi => by unfold f_Mod_tries; rw [cp_out (by omega) _ (by omega)]
  have f1 : ∀ i, i < 210 → f_Mod_tries V (V 0) (210 + i) = V 0 i := fun i hi => by unfold f_Mod_tries; rw [cp_in (by omega) _ hi, Nat.zero_add]
  generalize f_Mod_tries V (V 0) = f at *
  have wq : Wfs V (va_up V 0 f) := Wfs.rf.up (fun i hi => f0 i (by omega))
  have A : CX P (va_up V 0 f) 210 f x y (Z 302) f := CX.up (hc.cp (V := V) f1)
  have hpu : PK P (va_up V 0 f) := hp.up
  have k74 : va_up V 0 f 74 = V 74 := up_ne (by decide) rfl
  have k0 : va_up V 0 f 0 = f := up_same
  have k23 : va_up V 0 f 100 23 = V 100 23 := by rw [up_ne (by decide) rfl]
  generalize va_up V 0 f = U at *
  rw [up_same]
  by_cases q1 : 1 ≤ c
  · rw [if_pos q1, if_neg (show ¬ c = 0 by omega)]
    by_cases q6 : 6 ≤ c
    · rw [if_pos q6, if_pos q6, if_neg (show ¬ c ≤ 5 by omega)]
      have s19 : Z 302 219 = V 0 204 := hc.gs (i := 219) (j := 204) (by decide) (by decide) rfl
      have z0 := hb_0 (x := V 0 204) (k := c - 6) (by omega)
      have z2 := sb_0 (u := V 0 204) (x := c - 6) (by omega)
      unfold f_State_isBroken
      rw [s19]
      by_cases b : bt (V 0 204) (c - 6) = true
      · rw [if_neg (fun z => z0.mp z b), if_neg (fun z => z2.mp z b)]
        exact Or.inl ⟨rfl, rfl⟩
      · rw [if_pos (z0.mpr b), if_pos (z2.mpr b), ← hi_eq hp (by omega)]
        by_cases i : f_Plan_hasInputOf P (nI (c - 6)) = 0
        · rw [if_pos i, if_pos i]; exact Or.inl ⟨rfl, rfl⟩
        · rw [if_neg i, if_neg i]
          have g4 : f 414 = V 0 204 := f1 204 (by decide)
          refine Or.inr ⟨rfl, rfl, _, rfl, ?_, ?_, ?_, x, y, ?_⟩
          · have := wq.up (f := upd (U 0) 414 (U 0 414 ||| ((1 : Int32) <<< ((nI (c - 6)) &&& 31)))) (fun i hi => by rw [ud_o (by omega)])
            exact this
          · rw [u2_k (by decide)]; exact k74
          · exact hpu.cg (fun k hk => u2_k (by omega)) (fun i hi => by rw [u2_k (by decide)])
          · show CX P (u2 U 0 414 (U 0 414 ||| ((1 : Int32) <<< ((nI (c - 6)) &&& 31)))) 210 (u2 U 0 414 (U 0 414 ||| ((1 : Int32) <<< ((nI (c - 6)) &&& 31))) 0) x y (va_up (va_up Z 501 (Z 302)) 501 (f_State_turnSensor (nI (c - 6)) (Z 302)) 501) (u2 U 0 414 (U 0 414 ||| ((1 : Int32) <<< ((nI (c - 6)) &&& 31))) 0)
            rw [up_same, u2_e, k0, g4]
            unfold f_State_turnSensor
            have hh := cx_turn (v := Z 302 219 ^^^ (1 : Int32) <<< (nI (c - 6) &&& 31)) (w := V 0 204 ||| ((1 : Int32) <<< ((nI (c - 6)) &&& 31))) A (by rw [s19]; exact xo_or (by omega) b)
            exact (hh.re (fun _ _ _ => rfl)).cgW (by rw [u2_k (by decide)]) (by rw [u2_k (by decide)]) (by rw [u2_k (by decide)]) (u2_k (by decide))
    · rw [if_neg q6, if_neg q6, if_pos (show c ≤ 5 by omega)]
      have ng : ¬ nI c ≤ 0 := nI_nle (by omega) (by omega)
      rw [if_neg ng, ← n3.1]
      by_cases b : pN P 30 0 ≤ c - 1
      · have : f_Bus_isDevice P (nI (c - 1)) = 0 := by unfold f_Bus_isDevice; rw [if_neg (nI_pos (by omega)), if_pos (nI_le b (by omega))]
        rw [if_pos this, if_pos b]; exact Or.inl ⟨rfl, rfl⟩
      · have : ¬ f_Bus_isDevice P (nI (c - 1)) = 0 := by unfold f_Bus_isDevice; rw [if_neg (nI_pos (by omega)), if_neg (nI_ge (by omega) (by omega))]; decide
        rw [if_neg this, if_neg b]
        unfold f_State_isOn
        rw [cx_on hc]
        by_cases i : f_Mod_isOn V 0 (c - 1) (V 0) = 0
        · rw [if_pos i, if_pos i]; exact Or.inl ⟨rfl, rfl⟩
        · rw [if_neg i, if_neg i, show nI 0 = 0 by decide]
          obtain ⟨y', hh⟩ := cx_power (v := 0) (d := c - 1) A hpu (by rw [k23]; exact ho) (by omega)
          rw [k0]
          refine Or.inr ⟨rfl, rfl, _, rfl, ?_, ?_, hpu.up, x, y', ?_⟩
          · exact wq.up (fun i hi => by rw [k0]; exact hh.fr (by omega))
          · rw [up_ne (by decide) rfl]; exact k74
          · show CX P (va_up U 0 (f_Mod_powers U 210 (nI (c - 1)) 0 f)) 210 (va_up U 0 (f_Mod_powers U 210 (nI (c - 1)) 0 f) 0) x y' (va_up (va_up Z 501 (Z 302)) 501 (f_State_switchDevice (nI (c - 1)) 0 (P 30 2) (Z 302)) 501) (va_up U 0 (f_Mod_powers U 210 (nI (c - 1)) 0 f) 0)
            rw [up_same, up_same]
            exact CX.up (hh.re (fun _ _ _ => rfl))
  · have e : c = 0 := by omega
    subst e
    rw [if_neg q1, if_pos rfl, if_pos (by decide), if_pos (by decide)]
    refine Or.inr ⟨rfl, rfl, U, rfl, wq, k74, hpu, x, y, ?_⟩
    show CX P U 210 (U 0) x y (va_up Z 501 (Z 302) 501) (U 0)
    rw [up_same, k0]; exact A
/-- a cause that fits -/
def Fit (P Z : Zf) (c : Nat) : Prop := ¬ (f_Bus_startTrialBy P c Z).1 = 0 ∧ okN P Z 20 ((f_Bus_startTrialBy P c Z).2 501) 1
theorem Wfs.cx {P Z W V : Zf} {x y : Int32} (hw : Wfs W V) (hc : CX P W 0 (W 0) x y (Z 302) (W 0)) (hp : PK P W) (hx : PX P W) : CX P V 0 (V 0) x y (Z 302) (V 0) ∧ PK P V ∧ PX P V := by
  have a1 : PK P V := hp.cg (fun j hj => hw.1.1 j (by omega) (by omega) (by omega) (by omega)) (fun i hi => hw.1.2.1 i (by omega) (by omega) (by omega))
  have a2 : PX P V := hx.cg (fun j hj => hw.1.1 j (by omega) (by omega) (by omega) (by omega)) (fun i hi => hw.1.2.1 i (by omega) (by omega) (by omega))
  refine ⟨?_, a1, a2⟩
  exact (hc.re (s := V 0) (fun i _ _ => hw.1.2.2 i (by omega))).cg4 hp.nb.2 a2.1.1 hx.1.1 (hw.1.2.1 22 (by decide) (by decide) (by decide)) (hw.1.1 4 (by decide) (by decide) (by decide) (by decide))
/-- one cause on both sides -/
theorem on_ca {P Z W Q V : Zf} {c : Nat} {x y : Int32} (hc : CX P W 0 (W 0) x y (Z 302) (W 0)) (hp : PK P W) (hx : PX P W) (hi : NtI Z) (hr : NtR Z W 310 26 0) (hz : Zfr Z Q) (hw : Wfs W V) (h10 : c < 10) : ((f_Bus_startTrialBy P c Q).1 = 0 ∧ f_Mod_isCause c V = 0 ∧ ¬ Fit P Z c) ∨ (¬ (f_Bus_startTrialBy P c Q).1 = 0 ∧ ¬ f_Mod_isCause c V = 0 ∧ (¬ (f_Bus_trialIsAsNoted P (f_Bus_startTrialBy P c Q).2).1 = 0 ↔ Fit P Z c) ∧ (¬ (f_Mod_isNoted c V).1 = 0 ↔ Fit P Z c) ∧ Zfr Z (f_Bus_trialIsAsNoted P (f_Bus_startTrialBy P c Q).2).2 ∧ Wfs W (f_Mod_isNoted c V).2 ∧ (f_Mod_isNoted c V).2 74 = V 74 ∧ ∀ b, b < pN P 30 3 → (f_Mod_isNoted c V).2 73 b = gN P 8 ((f_Bus_startTrialBy P c Q).2 501) (b * 9 + 1)) := by
  obtain ⟨c1, c2, c3⟩ := hw.cx hc hp hx
  obtain ⟨s1, s2, s3⟩ := st_cg (P := P) (Z := Z) (Q := Q) (c := c) (hz 302 (by omega))
  have hr2 : NtR Z V 310 26 0 := hr.cg rfl rfl rfl rfl (hw.1.2.1 26 (by decide) (by decide) (by decide)) (hw.1.1 14 (by decide) (by decide) (by decide) (by decide)) (hw.1.1 15 (by decide) (by decide) (by decide) (by decide)) (hw.1.1 16 (by decide) (by decide) (by decide) (by decide))
  rw [s1, s2]
  rcases ca_eq c1 c2 ⟨c3.1.2.2.1, c3.1.2.2.2⟩ h10 with ⟨e1, e2⟩ | ⟨e1, e2, U, u1, u2, u3, u4, u5⟩
  · exact Or.inl ⟨e1, e2, fun z => z.1 e1⟩
  · right
    have ne : ¬ (f_Bus_startTrialBy P c Z).1 = 0 := by rw [e1]; decide
    obtain ⟨t1, t2, t3⟩ := tn_all (P := P) hi (hz.tr s3)
    obtain ⟨r1, r2, r3, r4, r5⟩ := rn_lp (cc := c) hi hr2 21 1 U _ 1 (by omega) (by omega) (by omega) (Or.inr rfl) u2 u4 u5
    refine ⟨ne, by rw [e2]; decide, ?_, ?_, t3, ?_, ?_, fun b hb => ?_⟩
    · rw [t2, s2]; exact ⟨fun z => ⟨ne, z⟩, fun z => z.2⟩
    · rw [u1, r2]; exact ⟨fun z => ⟨ne, z.2⟩, fun z => ⟨by decide, z.2⟩⟩
    · rw [u1]; exact hw.tr r3
    · rw [u1, r4, u3]
    · rw [u1, r5 b hb, if_pos (by decide)]
theorem ft_lp {P Z W : Zf} {x y : Int32} (hc : CX P W 0 (W 0) x y (Z 302) (W 0)) (hp : PK P W) (hx : PX P W) (hi : NtI Z) (hr : NtR Z W 310 26 0) : ∀ (t c : Nat) (u : Int32) (Q V : Zf), 10 - c < t → c ≤ 10 → Zfr Z Q → Wfs W V → (f_Bus_fits_4 P t Q u c).1 = (f_Mod_fits_9 t V u c).1 ∧ Zfr Z (f_Bus_fits_4 P t Q u c).2 ∧ Wfs W (f_Mod_fits_9 t V u c).2 ∧ ∀ i, i < 32 → (bt (f_Bus_fits_4 P t Q u c).1 i = true ↔ bt u i = true ∨ (c ≤ i ∧ i < 10 ∧ Fit P Z i)) := by
  intro t
  induction t with
  | zero => intro c u Q V h; omega
  | succ t ih =>
    intro c u Q V h hcc hz hw
    rw [f_Bus_fits_4, f_Mod_fits_9]
    by_cases q : 10 ≤ c
    · rw [if_pos q, if_pos q]
      exact ⟨rfl, hz, hw, fun i hi => ⟨fun z => Or.inl z, fun z => z.resolve_right (fun w => by omega)⟩⟩
    rw [if_neg q, if_neg q]
    have skip : ∀ {R : Int32}, ¬ Fit P Z c → (∀ i, i < 32 → (bt R i = true ↔ bt u i = true ∨ (c + 1 ≤ i ∧ i < 10 ∧ Fit P Z i))) → ∀ i, i < 32 → (bt R i = true ↔ bt u i = true ∨ (c ≤ i ∧ i < 10 ∧ Fit P Z i)) := by
      intro R nf hR i hi
      rw [hR i hi]
      refine ⟨fun z => z.imp id (fun w => ⟨by omega, w.2⟩), fun z => z.imp id (fun w => ⟨?_, w.2⟩)⟩
      by_cases e : i = c
      · subst e; exact absurd w.2.2 nf
      · omega
    rcases on_ca hc hp hx hi hr hz hw (c := c) (by omega) with ⟨e1, e2, e3⟩ | ⟨e1, e2, e3, e4, e5, e6, e7, e8⟩
    · rw [if_pos e1, if_pos e2]
      have zq : Zfr Z (f_Bus_startTrialBy P c Q).2 := hz.tr (st_cg (Z := Q) rfl).2.2
      obtain ⟨i1, i2, i3, i4⟩ := ih (c + 1) u _ V (by omega) (by omega) zq hw
      exact ⟨i1, i2, i3, skip e3 i4⟩
    · rw [if_neg e1, if_neg e2]
      by_cases fc : Fit P Z c
      · rw [if_neg (e3.mpr fc), if_neg (e4.mpr fc)]
        obtain ⟨i1, i2, i3, i4⟩ := ih (c + 1) (u ||| ((1 : Int32) <<< ((nI c) &&& 31))) _ _ (by omega) (by omega) e5 e6
        refine ⟨i1, i2, i3, fun i hi => ?_⟩
        rw [i4 i hi, or_bt_of hi (by omega)]
        refine ⟨fun z => ?_, fun z => ?_⟩
        · rcases z with (z | z) | z
          · exact Or.inl z
          · subst z; exact Or.inr ⟨by omega, by omega, fc⟩
          · exact Or.inr ⟨by omega, z.2⟩
        · rcases z with z | z
          · exact Or.inl (Or.inl z)
          · by_cases e : i = c
            · exact Or.inl (Or.inr e)
            · exact Or.inr ⟨by omega, z.2⟩
      · have f1 : (f_Bus_trialIsAsNoted P (f_Bus_startTrialBy P c Q).2).1 = 0 := Decidable.of_not_not (fun z => fc (e3.mp z))
        have f2 : (f_Mod_isNoted c V).1 = 0 := Decidable.of_not_not (fun z => fc (e4.mp z))
        rw [if_pos f1, if_pos f2]
        obtain ⟨i1, i2, i3, i4⟩ := ih (c + 1) u _ _ (by omega) (by omega) e5 e6
        exact ⟨i1, i2, i3, skip fc i4⟩
theorem e_fits : E_fits RelW := by
  intro S P Y Z W h
  have h0 := h.u0
  have hp := h0.2.2.1.1
  have hx := h0.2.2.1.2
  have hc := h0.cx
  show (f_Bus_fits P Z).1 = (f_Mod_fits W).1 ∧ RelW S P Y (ct (f_Bus_fits P Z).2 Z) (f_Mod_fits W).2
  unfold f_Mod_fits f_Bus_fits
  generalize u2 W 100 18 0 = V at *
  obtain ⟨f1, f2, f3, -⟩ := ft_lp hc hp hx h0.1.1 h0.2.2.2.1.2.2.1 11 0 0 Z V (by omega) (by omega) Zfr.rf Wfs.rf
  exact ⟨f1, h0.fr f2.ct f3.1⟩
theorem pc_gN {P : Zf} {n : Nat} : ∀ (t k : Nat) (c : Nat → Int32), n - k < t → f_Bus_passCycles_2 P n t c k = gN P (n - k) c := by
  intro t
  induction t with
  | zero => intro k c h; omega
  | succ t ih =>
    intro k c h
    rw [f_Bus_passCycles_2]
    by_cases q : n ≤ k
    · rw [if_pos q, show n - k = 0 by omega]; rfl
    · rw [if_neg q, ih (k + 1) _ (by omega), show n - k = (n - (k + 1)) + 1 by omega]; rfl
def SeR (P Q V : Zf) : Prop := ∀ b, b < pN P 30 3 → Q 505 b = V 74 b ∧ ∀ i, 4 ≤ i → bt (Q 505 b) i = false
theorem g57 {P : Zf} {x : Int32} {c : Nat} (hn : pN P 30 3 ≤ 10) : ∀ (t b : Nat) (Q : Zf), 10 - b < t → (∀ k, k ≠ 505 → f_Bus_gatherModes_57 P x t Q c b k = Q k) ∧ ∀ i, f_Bus_gatherModes_57 P x t Q c b 505 i = if b ≤ i ∧ i < pN P 30 3 then Q 505 i ||| ((1 : Int32) <<< ((Q 501 (i * 9 + 1)) &&& 31)) else Q 505 i := by
  intro t
  induction t with
  | zero => intro b Q h; omega
  | succ t ih =>
    intro b Q h
    rw [f_Bus_gatherModes_57]
    by_cases q : pN P 30 3 ≤ b
    · rw [if_pos q]
      exact ⟨fun _ _ => rfl, fun i => by rw [if_neg (by omega)]⟩
    rw [if_neg q]
    obtain ⟨i1, i2⟩ := ih (b + 1) (u2 Q 505 b (Q 505 b ||| ((1 : Int32) <<< ((Q 501 (b * 9 + 1)) &&& 31)))) (by omega)
    refine ⟨fun k hk => by rw [i1 k hk, u2_k hk], fun i => ?_⟩
    rw [i2 i, u2_k (show (501 : Nat) ≠ 505 by decide)]
    by_cases q1 : b + 1 ≤ i ∧ i < pN P 30 3
    · rw [if_pos q1, if_pos (by omega), u2_i (by omega) rfl]
    · rw [if_neg q1]
      by_cases q2 : i = b
      · subst q2
        rw [u2_s, if_pos (by omega)]
      · rw [u2_i q2 rfl, if_neg (by omega)]
theorem l71 {x : Int32} {c : Nat} : ∀ (t b : Nat) (V : Zf), pN V 100 20 ≤ 10 → 10 - b < t → (∀ k, k ≠ 74 → f_Mod_look_71 x t V c b k = V k) ∧ ∀ i, f_Mod_look_71 x t V c b 74 i = if b ≤ i ∧ i < pN V 100 20 then V 74 i ||| ((1 : Int32) <<< ((V 73 i) &&& 31)) else V 74 i := by
  intro t
  induction t with
  | zero => intro b V _ h; omega
  | succ t ih =>
    intro b V hn h
    rw [f_Mod_look_71]
    by_cases q : pN V 100 20 ≤ b
    · rw [if_pos q]
      exact ⟨fun _ _ => rfl, fun i => by rw [if_neg (by omega)]⟩
    rw [if_neg q]
    have e : pN (u2 V 74 b (V 74 b ||| ((1 : Int32) <<< ((V 73 b) &&& 31)))) 100 20 = pN V 100 20 := by unfold pN; rw [u2_k (by decide)]
    obtain ⟨i1, i2⟩ := ih (b + 1) (u2 V 74 b (V 74 b ||| ((1 : Int32) <<< ((V 73 b) &&& 31)))) (by omega) (by omega)
    refine ⟨fun k hk => by rw [i1 k hk, u2_k hk], fun i => ?_⟩
    rw [i2 i, e, u2_k (show (73 : Nat) ≠ 74 by decide)]
    by_cases q1 : b + 1 ≤ i ∧ i < pN V 100 20
    · rw [if_pos q1, if_pos (by omega), u2_i (by omega) rfl]
    · rw [if_neg q1]
      by_cases q2 : i = b
      · subst q2
        rw [u2_s, if_pos (by omega)]
      · rw [u2_i q2 rfl, if_neg (by omega)]
theorem gN_cx {P : Zf} : ∀ (m : Nat) {V : Zf} {c r : Nat → Int32} {r0 : Nat → Int32} {x y : Int32}, PK P V → CX P V 210 r0 x y c r → ∃ r' x' y', CX P V 210 r0 x' y' (gN P m c) r' := by
  intro m
  induction m with
  | zero => intro V c r r0 x y _ h; exact ⟨r, x, y, h⟩
  | succ m ih =>
    intro V c r r0 x y hp h
    obtain ⟨x', y', h1, -⟩ := cx_cycle h hp
    exact ih hp h1
theorem lk_lp {P Z W : Zf} {x y f o : Int32} (hc : CX P W 0 (W 0) x y (Z 302) (W 0)) (hp : PK P W) (hx : PX P W) (hi : NtI Z) (hr : NtR Z W 310 26 0) (hf : ∀ i, i < 10 → (bt f i = true ↔ Fit P Z i)) : ∀ (t c : Nat) (Q V : Zf), 10 - c < t → c ≤ 10 → Zfr Z Q → Wfs W V → SeR P Q V → Zfr Z (f_Bus_gatherModes_23 P f t Q c) ∧ Wfs W (f_Mod_look_44 o t V c) ∧ SeR P (f_Bus_gatherModes_23 P f t Q c) (f_Mod_look_44 o t V c) := by
  have n2 := hp.nb
  intro t
  induction t with
  | zero => intro c Q V h; omega
  | succ t ih =>
    intro c Q V h hcc hz hw hs
    rw [f_Bus_gatherModes_23, f_Mod_look_44]
    by_cases q : 10 ≤ c
    · rw [if_pos q, if_pos q]; exact ⟨hz, hw, hs⟩
    rw [if_neg q, if_neg q]
    have hbz := hb_0 (x := f) (k := c) (by omega)
    have hfc := hf c (by omega)
    obtain ⟨c1, c2, c3⟩ := hw.cx hc hp hx
    rcases on_ca hc hp hx hi hr hz hw (c := c) (by omega) with ⟨e1, e2, e3⟩ | ⟨e1, e2, e3, e4, e5, e6, e7, e8⟩
    · rw [if_pos (hbz.mpr (fun z => e3 (hfc.mp z))), if_pos e2]
      exact ih (c + 1) Q V (by omega) (by omega) hz hw hs
    · rw [if_neg e2]
      by_cases fc : Fit P Z c
      · rw [if_neg (fun z => hbz.mp z (hfc.mpr fc)), if_neg e1, if_neg (e4.mpr fc)]
        obtain ⟨s1, s2, s3⟩ := st_cg (P := P) (Z := Z) (Q := Q) (c := c) (hz 302 (by omega))
        have s55 : (f_Bus_startTrialBy P c Q).2 505 = Q 505 := by
          unfold f_Bus_startTrialBy
          have a1 : va_up Q 501 (Q 302) 505 = Q 505 := up_ne (by decide) rfl
          have a2 : ∀ g, va_up (va_up Q 501 (Q 302)) 501 g 505 = Q 505 := fun g => by rw [up_ne (by decide) rfl, up_ne (by decide) rfl]
          split
          · split
            · split
              · split
                · exact a1
                · exact a2 (f_State_turnSensor (nI (c - 6)) ((va_up Q 501 (Q 302)) 501))
              · exact a1
            · split
              · exact a1
              · split
                · exact a1
                · exact a2 (f_State_switchDevice (nI (c - 1)) 0 (P 30 2) ((va_up Q 501 (Q 302)) 501))
          · exact a1
        generalize hA : f_Bus_startTrialBy P c Q = A at *
        unfold f_Bus_passCycles
        rw [pc_gN 61 0 _ (by omega)]
        have zA : Zfr Z (va_up A.2 501 (gN P (8 - 0) (A.2 501))) := (hz.tr s3).up (by omega)
        obtain ⟨g1, g2⟩ := g57 (x := f) (c := c) n2.2 11 0 (va_up A.2 501 (gN P (8 - 0) (A.2 501))) (by omega)
        have b6 : pN (f_Mod_isNoted c V).2 100 20 = pN P 30 3 := by unfold pN; rw [e6.1.2.1 20 (by decide) (by decide) (by decide)]; exact n2.1.symm
        obtain ⟨l1, l2⟩ := l71 (x := o) (c := c) 11 0 (f_Mod_isNoted c V).2 (by omega) (by omega)
        have md : ∀ b, b < pN P 30 3 → ∃ a, a ≤ 3 ∧ gN P 8 (A.2 501) (b * 9 + 1) = nI a := by
          intro b hb
          rcases ca_eq (Z := Z) c1 c2 ⟨c3.1.2.2.1, c3.1.2.2.2⟩ (c := c) (by omega) with ⟨z1, -⟩ | ⟨-, -, U, -, -, -, u4, x5, y5, u5⟩
          · rw [← s1] at z1; exact absurd z1 e1
          · rw [← s2] at u5
            obtain ⟨r', x', y', h5⟩ := gN_cx 8 u4 u5
            have bm := h5.bm (k := b) (j := 1) (by omega) (by omega)
            obtain ⟨a, ha, ea⟩ := nI_of (x := gN P 8 (A.2 501) (b * 9 + 1)) (fun z => by rw [i_lt, t_0] at z; omega)
            rw [ea, nI_toInt ha] at bm
            exact ⟨a, by omega, ea⟩
        refine ih (c + 1) _ _ (by omega) (by omega) (fun k hk => by rw [g1 k (by omega)]; exact zA k hk) ?_ (fun b hb => ?_)
        · refine e6.tr ⟨⟨fun k a b c d => l1 k d, fun i a b c => by rw [l1 100 (by decide)], fun i hi => by rw [l1 0 (by decide)]⟩, by rw [l1 100 (by decide)]⟩
        · rw [g2 b, if_pos (by omega), l2 b, if_pos (by omega), up_same, up_ne (show 505 ≠ 501 by decide) rfl, s55, e7, e8 b hb, (hs b hb).1]
          refine ⟨rfl, fun i hi4 => ?_⟩
          obtain ⟨a, ha, ea⟩ := md b hb
          show bt (V 74 b ||| (1 : Int32) <<< (gN P 8 (A.2 501) (b * 9 + 1) &&& 31)) i = false
          rw [ea]
          by_cases z : i < 32
          · rw [or_bt z (by omega), decide_eq_false (by omega), Bool.or_false, ← (hs b hb).1]
            exact (hs b hb).2 i hi4
          · exact b_big (by omega)
      · have f2 : (f_Mod_isNoted c V).1 = 0 := Decidable.of_not_not (fun z => fc (e4.mp z))
        rw [if_pos (hbz.mpr (fun z => fc (hfc.mp z))), if_pos f2]
        exact ih (c + 1) Q _ (by omega) (by omega) hz e6 (fun b hb => by rw [e7]; exact hs b hb)
def bs4 (v : Int32) : Int32 := 0 + ((v >>> ((nI 0) &&& 31)) &&& 1) + ((v >>> ((nI 1) &&& 31)) &&& 1) + ((v >>> ((nI 2) &&& 31)) &&& 1) + ((v >>> ((nI 3) &&& 31)) &&& 1)
theorem bc_16 : ∀ m, m < 16 → f_JInteger_bitCount (nI m) = bs4 (nI m) := by decide +kernel
theorem sm_16 {v : Int32} (h : ∀ i, 4 ≤ i → bt v i = false) : ∃ m, m < 16 ∧ v = nI m := by
  have e := t_pos (h 31 (by decide))
  have l := Nat.lt_pow_two_of_testBit (n := 4) v.toBitVec.toNat (fun i hi => by rw [BitVec.testBit_toNat]; exact h i hi)
  have e16 : (2 : Nat) ^ 4 = 16 := by decide
  exact ⟨v.toBitVec.toNat, by omega, ti_eq (by rw [e, nI_toInt (by omega)])⟩
theorem l130 {x it tp : Int32} {b : Nat} {V : Zf} : f_Mod_look_130 x 5 V it tp b 0 0 = (bs4 (V 74 b), V) := by
  rw [f_Mod_look_130, if_neg (by decide), f_Mod_look_130, if_neg (by decide), f_Mod_look_130, if_neg (by decide), f_Mod_look_130, if_neg (by decide), f_Mod_look_130, if_pos (by decide)]
  rfl
theorem lf_lp {P Q V : Zf} {x : Int32} (hs : SeR P Q V) (hn : pN P 30 3 = pN V 100 20) : ∀ (t b : Nat) (e m : Int32), ∃ v, f_Bus_look_32 P x t Q e m b = (.inl v, Q) ∧ f_Mod_look_115 x t V e m b = (v, V) := by
  intro t
  induction t with
  | zero => intro b e m; exact ⟨0, rfl, rfl⟩
  | succ t ih =>
    intro b e m
    rw [f_Bus_look_32, f_Mod_look_115, ← hn]
    by_cases q : pN P 30 3 ≤ b
    · rw [if_pos q, if_pos q]
      by_cases q0 : x = 0
      · rw [if_pos q0, if_pos q0]; exact ⟨e, rfl, rfl⟩
      · rw [if_neg q0, if_neg q0]; exact ⟨m, rfl, rfl⟩
    rw [if_neg q, if_neg q, l130]
    obtain ⟨s1, s2⟩ := hs b (by omega)
    obtain ⟨u, hu, eu⟩ := sm_16 s2
    have bc : f_JInteger_bitCount (Q 505 b) = bs4 (V 74 b) := by rw [← s1, eu]; exact bc_16 u hu
    rw [bc]
    by_cases q1 : bs4 (V 74 b) ≤ m
    · have q2 : ¬ m < bs4 (V 74 b) := fun z => by rw [i_le] at q1; rw [i_lt] at z; omega
      rw [if_pos q1, if_neg q2]; exact ih _ _ _
    · have q2 : m < bs4 (V 74 b) := by rw [i_le] at q1; rw [i_lt]; omega
      rw [if_neg q1, if_pos q2]; exact ih _ _ _
theorem gm_2 {P : Zf} {x : Int32} : ∀ (t b : Nat) (Q : Zf), 10 - b < t → b ≤ 10 → (∀ k, k ≠ 505 → f_Bus_gatherModes_2 P x t Q b k = Q k) ∧ ∀ i, b ≤ i → i < 10 → f_Bus_gatherModes_2 P x t Q b 505 i = 0 := by
  intro t
  induction t with
  | zero => intro b Q h; omega
  | succ t ih =>
    intro b Q h hb
    rw [f_Bus_gatherModes_2]
    by_cases q : 10 ≤ b
    · rw [if_pos q]; exact ⟨fun _ _ => rfl, fun i h1 h2 => by omega⟩
    rw [if_neg q]
    obtain ⟨i1, i2⟩ := ih (b + 1) (u2 Q 505 b 0) (by omega) (by omega)
    refine ⟨fun k hk => by rw [i1 k hk, u2_k hk], fun i h1 h2 => ?_⟩
    by_cases e : i = b
    · subst e
      have key : ∀ (t k : Nat) (Q : Zf), i < k → f_Bus_gatherModes_2 P x t Q k 505 i = Q 505 i := by
        intro t
        induction t with
        | zero => intro k Q _; rfl
        | succ t ih =>
          intro k Q hk
          rw [f_Bus_gatherModes_2]
          split
          · rfl
          · rw [ih (k + 1) _ (by omega), u2_i (by omega) rfl]
      rw [key _ _ _ (by omega), u2_s]
    · exact i2 i (by omega) h2
theorem lo_23 {x : Int32} : ∀ (t b : Nat) (V : Zf), 10 - b < t → b ≤ 10 → (∀ k, k ≠ 74 → f_Mod_look_23 x t V b k = V k) ∧ ∀ i, b ≤ i → i < 10 → f_Mod_look_23 x t V b 74 i = 0 := by
  intro t
  induction t with
  | zero => intro b V h; omega
  | succ t ih =>
    intro b V h hb
    rw [f_Mod_look_23]
    by_cases q : 10 ≤ b
    · rw [if_pos q]; exact ⟨fun _ _ => rfl, fun i h1 h2 => by omega⟩
    rw [if_neg q]
    obtain ⟨i1, i2⟩ := ih (b + 1) (u2 V 74 b 0) (by omega) (by omega)
    refine ⟨fun k hk => by rw [i1 k hk, u2_k hk], fun i h1 h2 => ?_⟩
    by_cases e : i = b
    · subst e
      have key : ∀ (t k : Nat) (V : Zf), i < k → f_Mod_look_23 x t V k 74 i = V 74 i := by
        intro t
        induction t with
        | zero => intro k V _; rfl
        | succ t ih =>
          intro k V hk
          rw [f_Mod_look_23]
          split
          · rfl
          · rw [ih (k + 1) _ (by omega), u2_i (by omega) rfl]
      rw [key _ _ _ (by omega), u2_s]
    · exact i2 i (by omega) h2
theorem e_look : E_look RelW := by
  intro x S P Y Z W h
  have h0 := h.u0
  have hz : u2 W 100 18 0 100 18 = 0 := u2_s
  have hp := h0.2.2.1.1
  have hx := h0.2.2.1.2
  have hc := h0.cx
  have n2 := hp.nb
  show sameX 0 1 (f_Bus_look P x Z).1 (f_Mod_look x W) ∧ RelW S P Y (ct (f_Bus_look P x Z).2 Z) (f_Mod_look x W).2
  unfold f_Mod_look
  generalize u2 W 100 18 0 = V at *
  have i10 : ¬ (1 : Int32) = 0 := by decide
  rcases wj_of (x := x) (n := 1) (by decide) with ⟨a, b⟩ | ⟨a, m, hm, rfl⟩
  · rw [a, rt_z hz (by decide)]
    simp only [if_true]
    have ne := out_ne (by decide) b
    unfold f_Bus_look
    rw [if_neg (show ¬ x = 0 from ne 0 (by decide)), if_neg (show ¬ x = 1 from ne 1 (by decide))]
    exact ⟨sx_n1, by rw [ct_id (fun _ _ => rfl)]; exact h0.w (Wfr.rf.u1 (by omega))⟩
  · rw [a, rt_1 hz i10]
    simp only [if_neg i10]
    have : f_Bus_look P (nI m) Z = f_Bus_look_17 P (nI m) Z := by
      unfold f_Bus_look
      have cs : m = 0 ∨ m = 1 := by omega
      rcases cs with rfl | rfl
      · rw [if_pos (by decide)]
      · rw [if_neg (by decide), if_pos (by decide)]
    rw [this]
    unfold f_Bus_look_17 f_Mod_look_21 f_Bus_gatherModes
    have hi := h0.1.1
    have hr := h0.2.2.2.1.2.2.1
    obtain ⟨f1, f2, f3, f4⟩ := ft_lp hc hp hx hi hr 11 0 0 Z V (by omega) (by omega) Zfr.rf Wfs.rf
    have ff : f_Bus_fits P Z = f_Bus_fits_4 P 11 Z 0 0 := rfl
    rw [ff]
    generalize f_Bus_fits_4 P 11 Z 0 0 = F at *
    obtain ⟨g1, g2⟩ := gm_2 (P := P) (x := F.1) 11 0 F.2 (by omega) (by omega)
    obtain ⟨k1, k2⟩ := lo_23 (x := nI m) 11 0 V (by omega) (by omega)
    generalize f_Bus_gatherModes_2 P F.1 11 F.2 0 = G at *
    generalize f_Mod_look_23 (nI m) 11 V 0 = K at *
    have hK : Wfs V K := ⟨⟨fun k a b c d => k1 k d, fun i a b c => by rw [k1 100 (by decide)], fun i hi => by rw [k1 0 (by decide)]⟩, by rw [k1 100 (by decide)]⟩
    obtain ⟨l1, l2, l3⟩ := lk_lp (f := F.1) (o := nI m) hc hp hx hi hr (fun i hi10 => by
      rw [f4 i (by omega), b_0]
      exact ⟨fun z => (z.resolve_left (by decide)).2.2, fun z => Or.inr ⟨by omega, hi10, z⟩⟩) 11 0 G K (by omega) (by omega) (fun k hk => by rw [g1 k (by omega)]; exact f2 k hk) hK (fun b hb => by
      rw [g2 b (by omega) (by omega), k2 b (by omega) (by omega)]; exact ⟨rfl, fun i _ => b_0 i⟩)
    generalize f_Mod_look_44 (nI m) 11 K 0 = R at *
    generalize f_Bus_gatherModes_23 P F.1 11 G 0 = T at *
    have b6 : pN P 30 3 = pN R 100 20 := by unfold pN; rw [l2.1.2.1 20 (by decide) (by decide) (by decide)]; exact n2.1
    obtain ⟨v, e1, e2⟩ := lf_lp (x := nI m) l3 b6 11 0 (-1) 0
    rw [e1, e2]
    exact ⟨sx_v (l2.2.trans hz) rfl, h0.fr l1.ct l2.1⟩
