/-! slack, alike on both sides -/
theorem RelW.ly {S : SA} {P Y Z W V : Zf} (h : RelW S P Y Z W) (hv : ∀ k, lyK k → V k = W k) (hv1 : ∀ i, i ≠ 42 → i ≠ 43 → i ≠ 18 → V 100 i = W 100 i) (wf : wfM V) (pl : PlM V) (tk : TkI V) (ly : LYR P V) : RelW S P Y Z V := by
  obtain ⟨h1, h2, ⟨h3, h4⟩, ⟨a1, a2, a3, a4⟩, ⟨b1, b2⟩, ⟨c1, c2, c3⟩, h7⟩ := h
  have v : ∀ k, (k < 34 ∨ (41 < k ∧ k ≠ 100)) → V k = W k := fun k hk => hv k (by unfold lyK tkK; omega)
  have v0 := v 0 (by omega)
  refine ⟨h1, ?_, ⟨?_, ?_⟩, ⟨?_, ?_, ?_, ?_⟩, ⟨?_, ?_⟩, ⟨?_, ?_, ?_⟩, h7⟩
  · obtain ⟨m1, m2, m3, m4, m5, m6, m7, m8, m9, m10, m11, m12⟩ := h2
    refine ⟨wf, m2.of (hv1 _ (by omega) (by omega) (by omega)) (hv1 _ (by omega) (by omega) (by omega)), tk, m4.of (hv1 _ (by omega) (by omega) (by omega)) (v _ (by omega)), pl, ?_, ?_, ?_, ?_, ?_, ?_, ?_⟩
    · unfold isN pN at *
      rw [v 2 (by omega)]; exact m6
    · rw [v0]; exact m7
    · unfold pN at *
      rw [hv1 19 (by omega) (by omega) (by omega)]; exact m8
    · unfold RwI iNr at *
      rw [v 53 (by omega), v 54 (by omega), v 55 (by omega), v 56 (by omega), v 60 (by omega), v 61 (by omega), v 62 (by omega)]; exact m9
    · unfold VvI pN at *
      rw [hv1 50 (by omega) (by omega) (by omega)]; exact m10
    · unfold isN pN at *
      rw [v 2 (by omega)]; exact m11
    · unfold pN at *
      rw [hv1 32 (by omega) (by omega) (by omega)]; exact m12
  · obtain ⟨⟨k1, k2, k3⟩, k4, k5, k6, k7, k8, k9⟩ := h3
    have hl : ∀ k w, f_Mod_linkTo V k w = f_Mod_linkTo W k w := fun k w => lt_cg (hv1 21 (by omega) (by omega) (by omega)) (v 9 (by omega)) (v 10 (by omega))
    have hs : ∀ k, f_Mod_setFrom V k = f_Mod_setFrom W k := fun k => sf_cg (hv1 21 (by omega) (by omega) (by omega)) (v 8 (by omega)) (v 10 (by omega))
    refine ⟨⟨k1, wf, pl⟩, ?_, fun k hk => ?_, ?_, ?_, ?_, ?_⟩
    · unfold pN at *
      rw [hv1 19 (by omega) (by omega) (by omega), hv1 20 (by omega) (by omega) (by omega), hv1 21 (by omega) (by omega) (by omega)]; exact k4
    · obtain ⟨⟨x1, x2, -⟩, x3⟩ := k5 k hk
      refine ⟨⟨?_, ?_, (ly.2.1 k hk).1⟩, ?_⟩
      · unfold pN at *; rw [v 3 (by omega)]; exact x1
      · unfold pN at *; rw [v 1 (by omega)]; exact x2
      · unfold pN at *; rw [v 4 (by omega), v 5 (by omega), v 6 (by omega), v 7 (by omega)]; exact x3
    · unfold pN at *
      rw [v 8 (by omega), v 9 (by omega), v 10 (by omega)]; exact k6
    · simp only [hl, hs]; exact k7
    · unfold pN at *
      rw [v 9 (by omega), v 10 (by omega)]; exact k8
    · rw [v 11 (by omega), v 12 (by omega), v 13 (by omega)]; exact k9
  · obtain ⟨x1, x2, x3, x4⟩ := h4
    refine ⟨?_, ?_, ly, x4⟩
    · rw [hv1 44 (by omega) (by omega) (by omega), hv1 22 (by omega) (by omega) (by omega), hv1 23 (by omega) (by omega) (by omega)]; exact x1
    · rw [v 2 (by omega), v 4 (by omega)]; exact x2
  · rw [v0]; exact a1
  · exact a2.cg rfl (fun _ _ => rfl) (hv1 _ (by omega) (by omega) (by omega)) (hv1 _ (by omega) (by omega) (by omega)) (fun i _ _ => by rw [v0])
  · exact a3.cg rfl rfl rfl rfl (hv1 _ (by omega) (by omega) (by omega)) (v _ (by omega)) (v _ (by omega)) (v _ (by omega))
  · exact a4.cg rfl (v _ (by omega))
  · rw [hv1 30 (by omega) (by omega) (by omega)]; exact b1
  · intro z
    obtain ⟨⟨d1, d2, d3, d4⟩, d5, d6⟩ := b2 z
    refine ⟨⟨?_, ?_, ?_, ?_⟩, ?_, d6⟩
    · rw [v0]; exact d1
    · exact d2.cg rfl (fun _ _ => rfl) (hv1 _ (by omega) (by omega) (by omega)) (hv1 _ (by omega) (by omega) (by omega)) (fun i _ _ => by rw [v0])
    · exact d3.cg rfl rfl rfl rfl (hv1 _ (by omega) (by omega) (by omega)) (v _ (by omega)) (v _ (by omega)) (v _ (by omega))
    · exact d4.cg rfl (v _ (by omega))
    · unfold AcJ pN at *
      rw [hv1 27 (by omega) (by omega) (by omega), hv1 28 (by omega) (by omega) (by omega)]; exact d5
  · rw [hv1 32 (by omega) (by omega) (by omega)]; exact c1
  · rw [hv1 33 (by omega) (by omega) (by omega)]; exact c2
  · unfold TpR pN at *
    rw [v 31 (by omega)]; exact c3
def gLn (P : Zf) (b m : Nat) : Int32 := f_Layout_lay P (nI b) (nI m) (fun _ _ => 0) 32 0
def mxG (P : Zf) (b : Nat) : Nat → Nat
  | 0 => 0
  | m + 1 => if gLn P b (m + 1) = P 32 0 then m + 1 else mxG P b m
/-- the reference's plan with one time, as it is through slack -/
def SlR (W V : Zf) (b : Nat) : Prop := (∀ k, lyK k → k ≠ 2 → V k = W k) ∧ (∀ i, i ≠ 42 → i ≠ 43 → V 100 i = W 100 i) ∧ (∀ k, k ≠ b → V 2 k = W 2 k) ∧ wfM V ∧ PlM V
theorem SlR.nx {W V : Zf} {b n : Nat} (h : SlR W V b) (hn : n < 60) : SlR W (f_Mod_laysCycle (u2 V 2 b (nI n))) b ∧ TkI (f_Mod_laysCycle (u2 V 2 b (nI n))) ∧ f_Mod_laysCycle (u2 V 2 b (nI n)) 2 b = nI n := by
  obtain ⟨h1, h2, h3, h4, h5⟩ := h
  obtain ⟨l1, l2, l3, l4, l5⟩ := lay_all (wfM.uk h4 (k := 2) (i := b) (v := nI n) (by decide)) (PlM.tm h5 (b := b) hn)
  refine ⟨⟨fun k a b => ?_, fun i a c => ?_, fun k hk => ?_, l1, l2⟩, l3, ?_⟩
  · rw [l4 k a, u2_k b, h1 k a b]
  · rw [l5 i a c, u2_k (by decide), h2 i a c]
  · rw [l4 2 (by unfold lyK tkK; decide), u2_i hk rfl, h3 k hk]
  · rw [l4 2 (by unfold lyK tkK; decide), u2_s]
theorem ln_eq {P W V L : Zf} {b m hd : Nat} (hp : PK P W) (hx : PX P W) (hq : wfQ P) (hb : b < pN P 30 3) (h : SlR W V b) (he : W 2 b = nI hd) (hh : hd < 10) (hm : m ≤ 50) : f_Layout_lay P (nI b) (nI m) L 32 0 = f_Mod_laysCycle (u2 V 2 b (nI (hd + m))) 100 42 := by
  obtain ⟨h1, h2, h3, h4, h5⟩ := h
  have v : ∀ k, k = 1 ∨ k = 8 ∨ k = 9 ∨ k = 10 → u2 V 2 b (nI (hd + m)) k = W k := fun k hk => by rw [u2_k (by omega), h1 k (by unfold lyK tkK; omega) (by omega)]
  have vi : ∀ i, i = 20 ∨ i = 21 → u2 V 2 b (nI (hd + m)) 100 i = W 100 i := fun i hi => by rw [u2_k (by decide), h2 i (by omega) (by omega)]
  have nb := hp.nb.2
  refine (lay_rel (F := False) hq (wfM.uk h4 (by decide)) (PlM.tm h5 (by omega)) ⟨⟨?_, ?_⟩, fun k hk => ⟨?_, ?_⟩, fun l hl => ?_⟩ (fun z => z.elim)).1.1
  · unfold pN; rw [vi 20 (by omega)]; exact hp.nb.1
  · unfold pN; rw [vi 21 (by omega)]; exact hp.nl.1
  · unfold pN; rw [v 1 (by omega)]; exact hp.dv hk
  · by_cases e : k = b
    · subst e
      rw [u2_s, if_pos rfl, (hx.2.1 k hk).1, he, nI_add]
    · rw [u2_i e rfl, h3 k e, if_neg (fun z => e ((nI_eq (by omega) (by omega)).mp z))]
      exact (hx.2.1 k hk).1.symm
  · unfold pN; rw [v 8 (by omega), v 9 (by omega), v 10 (by omega)]; exact (hp.lk hl).1
theorem mx_ly {F Z : Zf} {k : Nat} (h : k < 218 ∨ 232 < k) : mixK [232, 218, 219, 220, 221, 222, 223, 224] F Z k = Z k := mix_o (by simp only [List.mem_cons, List.not_mem_nil, or_false]; omega)
theorem sk_c {P W : Zf} {b hd : Nat} {x : Int32} (hp : PK P W) (hx : PX P W) (hq : wfQ P) (hb : b < pN P 30 3) (h0 : SlR W W b) (he : W 2 b = nI hd) (hh : hd < 10) : ∀ (m t : Nat) (Z : Zf), m < t → m ≤ 50 → (f_Bus_slack_8 P x t Z b (nI m)).1 = .inl (nI (mxG P b m)) ∧ Zfr Z (f_Bus_slack_8 P x t Z b (nI m)).2 := by
  intro m
  induction m with
  | zero =>
    intro t Z ht _
    cases t with
    | zero => omega
    | succ t => rw [f_Bus_slack_8, if_pos (by decide)]; exact ⟨rfl, Zfr.rf⟩
  | succ m ih =>
    intro t Z ht hm
    cases t with
    | zero => omega
    | succ t =>
      rw [f_Bus_slack_8, if_neg (nI_nle (by omega) (by omega)), nI_one]
      have e : mixK [232, 218, 219, 220, 221, 222, 223, 224] (fun k => f_Layout_lay P (nI b) (nI (m + 1)) (fun k => Z (200 + k)) (k - 200)) Z 232 0 = gLn P b (m + 1) := by
        rw [mx_in (by decide)]
        show f_Layout_lay P (nI b) (nI (m + 1)) (fun k => Z (200 + k)) 32 0 = f_Layout_lay P (nI b) (nI (m + 1)) (fun _ _ => 0) 32 0
        rw [ln_eq hp hx hq hb h0 he hh hm, ln_eq hp hx hq hb h0 he hh hm]
      rw [e]
      have zf : Zfr Z (mixK [232, 218, 219, 220, 221, 222, 223, 224] (fun k => f_Layout_lay P (nI b) (nI (m + 1)) (fun k => Z (200 + k)) (k - 200)) Z) := fun k hk => mx_ly (by omega)
      show _ = Sum.inl (nI (if gLn P b (m + 1) = P 32 0 then m + 1 else mxG P b m)) ∧ _
      by_cases q : gLn P b (m + 1) = P 32 0
      · rw [if_pos q, if_pos q]; exact ⟨rfl, zf⟩
      · rw [if_neg q, if_neg q]
        obtain ⟨i1, i2⟩ := ih t (mixK [232, 218, 219, 220, 221, 222, 223, 224] (fun k => f_Layout_lay P (nI b) (nI (m + 1)) (fun k => Z (200 + k)) (k - 200)) Z) (by omega) (by omega)
        exact ⟨i1, zf.tr i2⟩
theorem sk_m {P W : Zf} {b hd : Nat} {x : Int32} (hp : PK P W) (hx : PX P W) (hq : wfQ P) (hb : b < pN P 30 3) (h0 : SlR W W b) (he : W 2 b = nI hd) (hh : hd < 10) : ∀ (t m : Nat) (V : Zf), 51 - m < t → 1 ≤ m → m ≤ 51 → SlR W V b → ∃ U, SlR W U b ∧ f_Mod_slack_33 x t V b hd (P 32 0) (nI (mxG P b (m - 1))) m = (nI (mxG P b 50), f_Mod_laysCycle (u2 U 2 b (nI hd))) := by
  intro t
  induction t with
  | zero => intro m V h; omega
  | succ t ih =>
    intro m V ht h1 hm hV
    rw [f_Mod_slack_33, s_laysCycle]
    by_cases q : 50 < m
    · rw [if_pos q, show m - 1 = 50 by omega]
      exact ⟨V, hV, rfl⟩
    rw [if_neg q]
    have e : f_Mod_laysCycle (u2 V 2 b (nI (hd + m))) 100 42 = gLn P b m := (ln_eq (L := fun _ _ => 0) hp hx hq hb hV he hh (by omega)).symm
    obtain ⟨n1, -, -⟩ := hV.nx (n := hd + m) (by omega)
    rw [e]
    have st : mxG P b (m + 1 - 1) = if gLn P b m = P 32 0 then m else mxG P b (m - 1) := by
      rw [Nat.add_sub_cancel]
      cases m with
      | zero => omega
      | succ m => rfl
    by_cases z : gLn P b m = P 32 0
    · rw [if_pos z]
      rw [if_pos z] at st
      have := ih (m + 1) _ (by omega) (by omega) (by omega) n1
      rw [st] at this
      exact this
    · rw [if_neg z]
      rw [if_neg z] at st
      have := ih (m + 1) _ (by omega) (by omega) (by omega) n1
      rw [st] at this
      exact this
theorem e_slack : E_slack RelW := by
  intro x S P Y Z W h
  have h0 := h.u0
  have hz : u2 W 100 18 0 100 18 = 0 := u2_s
  have hp := h0.2.2.1.1
  have hx := h0.2.2.1.2
  have hM := h0.2.1
  have n2 := hp.nb
  show sameX 0 1 (f_Bus_slack P x Z).1 (f_Mod_slack x W) ∧ RelW S P Y (ct (f_Bus_slack P x Z).2 Z) (f_Mod_slack x W).2
  unfold f_Mod_slack f_Mod_isBlock
  generalize u2 W 100 18 0 = V at *
  unfold f_Bus_slack
  have i10 : ¬ (1 : Int32) = 0 := by decide
  rcases ib_eq (x := x) hp with ⟨a1, a2⟩ | ⟨a1, a2, m, hm, rfl⟩
  · rw [a1, a2, rt_z hz (by decide), if_neg (fun z => z rfl)]
    simp only [if_true]
    exact ⟨sx_n1, by rw [ct_id (fun _ _ => rfl)]; exact h0.w (Wfr.rf.u1 (by omega))⟩
  · rw [a1, a2, rt_1 hz i10, if_pos i10, nI_clamp (by omega)]
    simp only [if_neg i10]
    unfold f_Bus_slack_5 f_Mod_slack_15
    have he := hM.2.2.2.2.2.1 m
    have S0 : SlR V V m := ⟨fun _ _ _ => rfl, fun _ _ _ => rfl, fun _ _ => rfl, hp.wM, hM.2.2.2.2.1⟩
    have hq : wfQ P := hp.wP.1
    obtain ⟨c1, c2⟩ := sk_c (x := nI m) hp hx hq hm S0 he.1 he.2 50 51 Z (by omega) (by omega)
    obtain ⟨U, u1, u2'⟩ := sk_m (x := nI m) hp hx hq hm S0 he.1 he.2 51 1 V (by omega) (by omega) (by omega) S0
    rw [show (50 : Int32) = nI 50 by decide, c1]
    rw [show mxG P m (1 - 1) = 0 from rfl, show nI 0 = 0 by decide, hx.2.2.1.1.1] at u2'
    rw [u2']
    obtain ⟨n1, n2', n3⟩ := u1.nx (n := pN V 2 m) (by omega)
    obtain ⟨r1, r2, r3, r4, r5⟩ := n1
    have U2 : u2 U 2 m (nI (pN V 2 m)) 2 = V 2 := by
      rw [u2_e]
      funext k
      by_cases e : k = m
      · subst e; rw [ud_s]; exact he.1.symm
      · rw [ud_o e]; exact u1.2.2.1 k e
    have LY : LYR P (f_Mod_laysCycle (u2 U 2 m (nI (pN V 2 m)))) := by
      refine hx.2.2.2 _ (wfM.uk u1.2.2.2.1 (by decide)) (PlM.tm u1.2.2.2.2 (by omega)) ⟨?_, ?_, fun k hk => ⟨?_, ?_⟩, fun l hl => ?_⟩
      · unfold pN; rw [u2_k (by decide), u1.2.1 20 (by decide) (by decide)]; exact hp.nb.1
      · unfold pN; rw [u2_k (by decide), u1.2.1 21 (by decide) (by decide)]; exact hp.nl.1
      · unfold pN; rw [u2_k (by decide), u1.1 1 (by unfold lyK tkK; decide) (by decide)]; exact hp.dv hk
      · rw [U2]; exact (hx.2.1 k hk).1
      · unfold pN; rw [u2_k (by decide), u2_k (by decide), u2_k (by decide), u1.1 8 (by unfold lyK tkK; decide) (by decide), u1.1 9 (by unfold lyK tkK; decide) (by decide), u1.1 10 (by unfold lyK tkK; decide) (by decide)]; exact (hp.lk hl).1
    have V2 : f_Mod_laysCycle (u2 U 2 m (nI (pN V 2 m))) 2 = V 2 := by
      have := (lay_all (wfM.uk u1.2.2.2.1 (k := 2) (i := m) (v := nI (pN V 2 m)) (by decide)) (PlM.tm u1.2.2.2.2 (b := m) (n := pN V 2 m) (by omega))).2.2.2.1 2 (by unfold lyK tkK; decide)
      rw [this, U2]
    generalize f_Mod_laysCycle (u2 U 2 m (nI (pN V 2 m))) = R at *
    refine ⟨sx_v ?_ rfl, ?_⟩
    · show R 100 18 = 0
      rw [r2 18 (by decide) (by decide)]; exact hz
    · have hr := h0.ly (V := R) (fun k hk => ?_) (fun i a b _ => r2 i a b) r4 r5 n2' LY
      · exact hr.fr c2.ct Wfr.rf
      · by_cases e : k = 2
        · subst e; exact V2
        · exact r1 k hk e
