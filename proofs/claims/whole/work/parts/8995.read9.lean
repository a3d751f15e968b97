/-! the clauses one after the other -/
theorem rb_rel {B : Nat → Int32} {nb c : Nat} {Z V : Zf} (h : Kt B (Z 40) V) (h3 : Z 30 3 = nI nb) (hb : nb < 11) :
    (∃ v Q U, (v ≤ 9 ∧ v < nb) ∧ (f_Reader_readBlockNumber B Z).2 = va_up Z 40 Q ∧ rbN B Z = v ∧ f_Mod_named (nI 9) (nI nb) V = (nI v, U) ∧ Kt B Q U ∧ RFr (Z 40) Q ∧ KG V U) ∨
    (∃ Q U, (f_Reader_readBlockNumber B Z).2 = va_up Z 40 Q ∧ f_Mod_named (nI 9) (nI nb) V = (0, U) ∧ Bad Q U) := by
  have e30 : ∀ Q, pN (va_up Z 40 Q) 30 3 = nb := fun Q => pN_mk (by omega) (by rw [up_ne (by decide) rfl]; exact h3)
  unfold f_Reader_readBlockNumber f_Reader_readBlockNumber_8 rbN
  rw [e30]
  rcases nam_rel (hi := 9) (d := nb) h (by omega) (by omega) with ⟨v, Q, U, a1, a2, a3, a4, a5, a6⟩ | ⟨v, Q, U, a1, a2, a3, a4, a5⟩ | ⟨Q, U, a2, a3, a4⟩
  · left
    rw [rn_1 a2 (by omega), rn_2 a2, if_pos a1.2]
    exact ⟨v, Q, U, a1, rfl, rfl, a3, a4, a5, a6⟩
  · right
    rw [rn_1 a2 (by omega), rn_2 a2, if_neg (show ¬ v < nb by omega), up_same, up_up]
    exact ⟨_, U, rfl, a3, a4⟩
  · right
    rw [rn_1 a2 (by omega), rn_2 a2]
    refine ⟨Q, U, ?_, a3, a4⟩
    rw [up_f (by rw [up_same]; exact a4.ne)]
    split <;> rfl
theorem lm_38 {R : Nat → Int32} {V : Zf} {f : Nat} (h : Bad R V) : Bad R (f_Mod_link1_38 V f) := by
  unfold f_Mod_link1_38 f_Mod_link1_49
  rw [na_b h.2.1, if_neg h.2.1]; exact h
theorem lm_49 {R : Nat → Int32} {V : Zf} {f t : Nat} (h : Bad R V) : Bad R (f_Mod_link1_49 V f t) := by
  unfold f_Mod_link1_49
  rw [if_neg h.2.1]; exact h
theorem cl_link {B : Nat → Int32} {n nb c : Nat} {Z V : Zf} (hy : YQ Z) (h : Kc B (Z 40) V) (hp : PlR c Z V) (hR : RwI V) (h7 : V 100 67 = nI nb) (hb : nb < 11) (h8 : V 100 68 = nI n) (hn : n < 13) : CR B c (f_Reader_readLink B Z) (f_Mod_link1 V) := by
  have h0 := h.1.2
  have e31 : pN Z 31 0 = n := pN_mk (by omega) (by rw [hp.1.1.2]; exact h8)
  have e12 : (12 : Int32) ≤ nI n ↔ 12 ≤ n := nI_leI (a := 12) (by omega) (by omega)
  unfold f_Reader_readLink f_Mod_link1
  rw [e31, h8]
  by_cases q : n < 12
  · rw [if_pos q, if_neg (fun z => by have := e12.mp z; omega), wt_y h0 n1z, if_neg z1z]
    show CR B c _ (f_Mod_link1_23 V)
    obtain ⟨g1, g2⟩ := h.go
    have hp1 := hp.kg (Q := Z 40) g2 (fun _ _ _ _ => rfl)
    rw [up_self rfl] at hp1
    have e7 : s_Mod_go V 100 67 = nI nb := by rw [g2.i (by omega)]; exact h7
    unfold f_Mod_link1_23
    rw [e7]
    have g3 := g2
    generalize s_Mod_go V = V1 at g1 g2 hp1 e7 g3 ⊢
    have z3 : Z 30 3 = nI nb := by rw [hp.1.1.1]; exact h7
    unfold f_Reader_readLink_20
    rcases rb_rel (c := c) g1 z3 hb with ⟨v, Q, U, a1, a2, a3, a4, a5, a6, a7⟩ | ⟨Q, U, a2, a3, a4⟩
    · rw [a2, a3, a4]
      show CR B c _ (f_Mod_link1_38 U (nI v).toNatClampNeg)
      rw [nI_clamp (by omega)]
      have hy1 : YQ (va_up Z 40 Q) := hy.r
      have hp2 : PlR c (va_up Z 40 Q) U := hp1.kg a7 a6
      have k2 : Kt B (va_up Z 40 Q 40) U := by rw [up_same]; exact a5
      have z3' : va_up Z 40 Q 30 3 = nI nb := by rw [up_ne (by decide) rfl]; exact z3
      have g4 := g3.trans a7
      generalize va_up Z 40 Q = Z1 at hy1 hp2 k2 z3' ⊢
      unfold f_Mod_link1_38
      rw [show U 100 67 = nI nb by rw [a7.i (by omega)]; exact e7]
      rcases rb_rel (c := c) k2 z3' hb with ⟨u, Q2, U2, b1, b2, b3, b4, b5, b6, b7⟩ | ⟨Q2, U2, b2, b3, b4⟩
      · rw [b2, b3, b4]
        show CR B c _ (f_Mod_link1_49 U2 v (nI u).toNatClampNeg)
        rw [nI_clamp (by omega)]
        have hy2 : YQ (va_up Z1 40 Q2) := hy1.r
        have hp3 : PlR c (va_up Z1 40 Q2) U2 := hp2.kg b7 b6
        have k3 : Kt B (va_up Z1 40 Q2 40) U2 := by rw [up_same]; exact b5
        have g5 := g4.trans b7
        generalize va_up Z1 40 Q2 = Z2 at hy2 hp3 k3 ⊢
        have hc := k3.nx
        rw [up_same, if_pos hc.1.1]
        have p7 : pN U2 100 67 = nb := pN_mk (by omega) (by rw [g5.i (by omega)]; exact h7)
        exact l_42 hy2 k3 hp3 (hR.of (fun k _ _ => g5.k (by omega))) (by rw [g5.i (by omega)]; exact h8) q (by omega) (by omega) (by omega)
      · rw [b2, b3]
        have bn : ¬ va_up Z1 40 Q2 40 1 = 0 := by rw [up_same]; exact b4.ne
        rw [up_x bn, if_neg bn]
        exact BadK (V := V) hy1 (lm_49 b4)
    · rw [a2, a3]
      have bn : ¬ va_up Z 40 Q 40 1 = 0 := by rw [up_same]; exact a4.ne
      rw [lb_rb bn, up_x bn, if_neg bn]
      exact BadK (V := V) hy (lm_38 a4)
  · rw [if_neg q, if_pos (e12.mpr (by omega))]
    obtain ⟨f1, f2⟩ := h.fl (e := 2) (by decide)
    rw [n0, nI2, f1, lb_20 (by rw [up_same]; exact f2.ne)]
    exact BadK (V := V) hy f2
/-- the clause without its end -/
def cl0 (B : Nat → Int32) (Z : Zf) : Zf :=
  if (f_Reader_isWord B (Z 40) 0) = 0 then if (f_Reader_isWord B (Z 40) 1) = 0 then if (f_Reader_isWord B (Z 40) 12) = 0 then if (f_Reader_isWord B (Z 40) 16) = 0 then if (f_Reader_isWord B (Z 40) 17) = 0 then if (f_Reader_isWord B (Z 40) 18) = 0 then va_up Z 40 (f_Reader_fail 1 (Z 40)) else f_Reader_readOver B Z else f_Reader_readOld B Z else f_Reader_readPlant B Z else f_Reader_readLink B Z else f_Reader_readBlock B Z else f_Reader_readDevices B Z
theorem cl0_eq {B : Nat → Int32} {Z : Zf} : f_Reader_readClause B Z = f_Reader_readClause_101 B (cl0 B Z) := by
  unfold f_Reader_readClause cl0
  by_cases h0 : f_Reader_isWord B (Z 40) 0 = 0
  case neg => rw [if_neg h0, if_neg h0]
  rw [if_pos h0, if_pos h0]
  by_cases h1 : f_Reader_isWord B (Z 40) 1 = 0
  case neg => rw [if_neg h1, if_neg h1]
  rw [if_pos h1, if_pos h1]
  by_cases h12 : f_Reader_isWord B (Z 40) 12 = 0
  case neg => rw [if_neg h12, if_neg h12]
  rw [if_pos h12, if_pos h12]
  by_cases h16 : f_Reader_isWord B (Z 40) 16 = 0
  case neg => rw [if_neg h16, if_neg h16]
  rw [if_pos h16, if_pos h16]
  by_cases h17 : f_Reader_isWord B (Z 40) 17 = 0
  case neg => rw [if_neg h17, if_neg h17]
  rw [if_pos h17, if_pos h17]
  by_cases h18 : f_Reader_isWord B (Z 40) 18 = 0
  case neg => rw [if_neg h18, if_neg h18]
  rw [if_pos h18, if_pos h18]
theorem cl_rel {B : Nat → Int32} {c : Nat} {Z V : Zf} (hc : c < 2000) (hy : YQ Z) (h : Kc B (Z 40) V) (hp : PlR c Z V) (hR : RdM V) : CR B c (cl0 B Z) (f_Mod_clause1 V) := by
  have h0 := h.1.2
  have hRw := hR.w
  obtain ⟨-, ⟨-, r7, r8⟩, -⟩ := hR
  have w1 : ∀ y, f_Mod_wants (nI 1) y V = (1, V) := fun y => wt_y h0 n1z
  obtain ⟨f1, f2⟩ := h.fl (e := 1) (by decide)
  have bad : CR B c (va_up Z 40 (f_Reader_fail 1 (Z 40))) (f_Mod_wants (nI 0) (nI 1) V).2 := by
    rw [n0, nI1, f1]; exact BadK (V := V) hy f2
  unfold cl0 f_Mod_clause1
  rcases h.wd with ⟨a1, w, a2, a3, a4⟩ | ⟨a1, a2⟩
  · rw [if_pos a1, a3]
    have no : ∀ i, i < 19 → ¬ w = wcI i → f_Reader_isWord B (Z 40) i = 0 := fun i hi z => Classical.byContradiction fun y => z ((a4 i hi).mp y)
    have i0 : wcI 0 = 0 := by decide
    have i1 : wcI 1 = 1 := by decide
    have i12 : wcI 12 = 2 := by decide
    have i16 : wcI 16 = 3 := by decide
    have i17 : wcI 17 = 4 := by decide
    have i18 : wcI 18 = 5 := by decide
    unfold f_Mod_clause1_17
    have ne : ∀ m : Nat, m < 19 → ¬ w = m → ¬ nI w = nI m := fun m hm z y => z ((nI_eq (by omega) (by omega)).mp y)
    by_cases c0 : w = 0
    · subst c0
      rw [if_neg ((a4 0 (by omega)).mpr i0.symm), if_neg (show ¬ nI 0 = 1 by decide), if_neg (show ¬ nI 0 = 2 by decide), if_neg (show ¬ nI 0 = 3 by decide), if_neg (show ¬ nI 0 = 4 by decide), if_neg (show ¬ nI 0 = 5 by decide), if_pos (show nI 0 = 0 by decide), w1, if_neg z1z]
      have g := cl_dev hc hy h hp
      show CR B c _ (if V 100 72 = 0 then if (f_Mod_wants (nI 1) (nI 4) V).1 = 0 then (f_Mod_wants (nI 1) (nI 4) V).2 else f_Mod_clause1_108 (f_Mod_wants (nI 1) (nI 4) V).2 else (f_Mod_wants (nI 0) (nI 4) V).2)
      rw [w1, if_neg z1z]
      exact g
    rw [if_pos (no 0 (by omega) (by omega))]
    by_cases c1 : w = 1
    · subst c1
      rw [if_neg ((a4 1 (by omega)).mpr i1.symm), if_pos (show nI 1 = 1 by decide)]
      exact cl_block hy h hp r7.1 r7.2
    rw [if_pos (no 1 (by omega) (by omega)), if_neg (show ¬ nI w = 1 from ne 1 (by omega) c1)]
    by_cases c2 : w = 2
    · subst c2
      rw [if_neg ((a4 12 (by omega)).mpr i12.symm), if_pos (show nI 2 = 2 by decide)]
      exact cl_link hy h hp hRw r7.1 r7.2 r8.1 r8.2
    rw [if_pos (no 12 (by omega) (by omega)), if_neg (show ¬ nI w = 2 from ne 2 (by omega) c2)]
    by_cases c3 : w = 3
    · subst c3
      rw [if_neg ((a4 16 (by omega)).mpr i16.symm), if_pos (show nI 3 = 3 by decide)]
      exact cl_plant hy h hp
    rw [if_pos (no 16 (by omega) (by omega)), if_neg (show ¬ nI w = 3 from ne 3 (by omega) c3)]
    by_cases c4 : w = 4
    · subst c4
      rw [if_neg ((a4 17 (by omega)).mpr i17.symm), if_pos (show nI 4 = 4 by decide)]
      exact cl_old hy h hp
    rw [if_pos (no 17 (by omega) (by omega)), if_neg (show ¬ nI w = 4 from ne 4 (by omega) c4)]
    by_cases c5 : w = 5
    · subst c5
      rw [if_neg ((a4 18 (by omega)).mpr i18.symm), if_pos (show nI 5 = 5 by decide)]
      exact cl_over hy h hp
    rw [if_pos (no 18 (by omega) (by omega)), if_neg (show ¬ nI w = 5 from ne 5 (by omega) c5), if_neg (show ¬ nI w = 0 from ne 0 (by omega) c0)]
    exact bad
  · rw [if_pos (a2 0 (by omega)), if_pos (a2 1 (by omega)), if_pos (a2 12 (by omega)), if_pos (a2 16 (by omega)), if_pos (a2 17 (by omega)), if_pos (a2 18 (by omega))]
    have e : f_Mod_clause1_17 V (-1) = (f_Mod_wants (nI 0) (nI 1) V).2 := by
      unfold f_Mod_clause1_17
      rw [if_neg (by decide), if_neg (by decide), if_neg (by decide), if_neg (by decide), if_neg (by decide), if_neg (by decide)]
    rcases a1 with a1 | a1
    · rw [if_neg a1, e]; exact bad
    · rw [a1, ite_self, e]; exact bad
/-- between two clauses -/
def Lp (B : Nat → Int32) (k : Nat) (Z V : Zf) : Prop := YQ Z ∧ RdM V ∧ ((Kc B (Z 40) V ∧ PlR k Z V ∧ (V 100 49 = 0 ∨ k < pN V 100 46)) ∨ Bad (Z 40) V)
noncomputable def nxV (V : Zf) : Zf :=
  if ((u2 (f_Mod_clause1 V) 100 72 ((f_Mod_clause1 V) 100 72 + 1)) 100 52) = 0 then if ((u2 (f_Mod_clause1 V) 100 72 ((f_Mod_clause1 V) 100 72 + 1)) 100 49) = 3 then s_Mod_go (u2 (f_Mod_clause1 V) 100 72 ((f_Mod_clause1 V) 100 72 + 1)) else (f_Mod_wants (nI 0) (nI 1) (u2 (f_Mod_clause1 V) 100 72 ((f_Mod_clause1 V) 100 72 + 1))).2 else u2 (f_Mod_clause1 V) 100 72 ((f_Mod_clause1 V) 100 72 + 1)
theorem nx_eq {x : Int32} {t n : Nat} {V : Zf} (h0 : V 100 52 = 0) (h9 : ¬ V 100 49 = 0) : f_Mod_bus_116 x (t + 1) V n = f_Mod_bus_116 x t (nxV V) n := by
  rw [f_Mod_bus_116, if_pos h0, if_neg h9]
  unfold nxV
  generalize u2 (f_Mod_clause1 V) 100 72 (f_Mod_clause1 V 100 72 + 1) = U
  by_cases q : U 100 52 = 0
  · rw [if_pos q, if_pos q]
    by_cases r : U 100 49 = 3
    · rw [if_pos r, if_pos r, wt_y q n1z, if_neg z1z]
    · rw [if_neg r, if_neg r]
  · rw [if_neg q, if_neg q]
def nxZ (B : Nat → Int32) (Z : Zf) : Zf := va_up (f_Reader_readClause B Z) 40 (f_Reader_nextToken B ((f_Reader_readClause B Z) 40))
theorem PlR.c1 {c : Nat} {Z V : Zf} (h : PlR c Z V) (hc : c < 2000) : PlR (c + 1) (u2 Z 40 6 (Z 40 6 + 1)) (u2 V 100 72 (V 100 72 + 1)) := by
  obtain ⟨p1, p2, p3, ⟨p4, p5⟩, p6⟩ := h
  refine ⟨p1.fr (fun k hk => u2_k (by omega)) (by rw [u2_k (by decide)]) (by rw [u2_k (by decide)]) (fun k _ _ => u2_k (by omega)) (u2_i (by decide) rfl) (u2_i (by decide) rfl), p2.fr (fun k _ _ => u2_k (by omega)) (fun k _ _ => u2_k (by omega)), p3.fr (by rw [u2_k (by decide)]) (by rw [u2_k (by decide)]) (by rw [u2_k (by decide)]) (u2_i (by decide) rfl) (u2_i (by decide) rfl) (u2_i (by decide) rfl), ⟨?_, ?_⟩, ?_⟩
  · rw [u2_s, p4, nI_1]
  · rw [u2_s, p5, nI_1]
  · rw [u2_i (by decide) rfl, u2_i (by decide) rfl, u2_i (by decide) rfl]; exact p6
theorem lp_st {B : Nat → Int32} {k : Nat} {Z V : Zf} (hk : k < 2000) (hy : YQ Z) (hR : RdM V) (h : Kc B (Z 40) V) (hp : PlR k Z V) (h9 : ¬ V 100 49 = 0) (hl : k < pN V 100 46) : Lp B (k + 1) (nxZ B Z) (nxV V) ∧ RM V (nxV V) ∧ ∀ t, muB V < t + 1 → muB (nxV V) < t := by
  have h0 := h.1.2
  have st := bus_st hR
  have cr := cl_rel hk hy h hp hR
  unfold nxZ nxV
  rw [cl0_eq]
  have fr1 : u2 (f_Mod_clause1 V) 100 72 (f_Mod_clause1 V 100 72 + 1) 100 52 = f_Mod_clause1 V 100 52 := u2_i (by decide) rfl
  have fr9 : u2 (f_Mod_clause1 V) 100 72 (f_Mod_clause1 V 100 72 + 1) 100 49 = f_Mod_clause1 V 100 49 := u2_i (by decide) rfl
  obtain ⟨cy, cr⟩ := cr
  unfold f_Reader_readClause_101 f_Reader_readClause_118
  generalize cl0 B Z = Z1 at cy cr ⊢
  rcases cr with ⟨c1, c2⟩ | c1
  · have hc := c1.nx
    have hp1 := c2.kg (Q := f_Reader_nextToken B (Z1 40)) KG.rf c1.2.2.2.2
    have hp2 := hp1.c1 hk
    have t9 := c1.tk.1
    have e9 : va_up Z1 40 (f_Reader_nextToken B (Z1 40)) 40 9 = f_Mod_clause1 V 100 49 := by rw [up_same]; exact t9
    rw [fr1, fr9, if_pos c1.1.2, e9]
    by_cases q : f_Mod_clause1 V 100 49 = 3
    · rw [if_pos q, if_pos q]
      have hk1 : Kc B (u2 (va_up Z1 40 (f_Reader_nextToken B (Z1 40))) 40 6 (va_up Z1 40 (f_Reader_nextToken B (Z1 40)) 40 6 + 1) 40) (u2 (f_Mod_clause1 V) 100 72 (f_Mod_clause1 V 100 72 + 1)) := by
        rw [u2_e, up_same]
        exact (hc.r (by omega)).i (by omega)
      have cy1 : YQ (u2 (va_up Z1 40 (f_Reader_nextToken B (Z1 40))) 40 6 (va_up Z1 40 (f_Reader_nextToken B (Z1 40)) 40 6 + 1)) := cy.r.k (by omega)
      generalize u2 (va_up Z1 40 (f_Reader_nextToken B (Z1 40))) 40 6 (va_up Z1 40 (f_Reader_nextToken B (Z1 40)) 40 6 + 1) = Z2 at hk1 hp2 cy1 ⊢
      have mg := fun t (ht : muB V < t + 1) => mu_go h0 h9 ht st
      generalize u2 (f_Mod_clause1 V) 100 72 (f_Mod_clause1 V 100 72 + 1) = V2 at hk1 hp2 st mg ⊢
      obtain ⟨g1, g2⟩ := hk1.go
      have rg : RM V (s_Mod_go V2) := st.rw ((RW.self st.1.1).go)
      refine ⟨⟨cy1.r, rg.1, Or.inl ⟨by rw [up_same]; exact g1.nx, hp2.kg g2 g1.2.2.2.2, ?_⟩⟩, rg, mg⟩
      have gs := go_s st.1.1
      have := st.2.2.2
      rcases gs.2.2.2 with z | z
      · exact Or.inl z
      · right; omega
    · rw [if_neg q, if_neg q, show va_up Z1 40 (f_Reader_nextToken B (Z1 40)) 40 = f_Reader_nextToken B (Z1 40) from up_same]
      have hk1 : Kc B (f_Reader_nextToken B (Z1 40)) (u2 (f_Mod_clause1 V) 100 72 (f_Mod_clause1 V 100 72 + 1)) := hc.i (by omega)
      obtain ⟨f1, f2⟩ := hk1.fl (e := 1) (by decide)
      rw [n0, nI1]
      have rg : RM V (f_Mod_wants 0 1 (u2 (f_Mod_clause1 V) 100 72 (f_Mod_clause1 V 100 72 + 1))).2 := st.rw ((RW.self st.1.1).wt)
      rw [f1] at rg ⊢
      have e0 : ∀ x, u2 (va_up (va_up Z1 40 (f_Reader_nextToken B (Z1 40))) 40 (f_Reader_fail 1 (f_Reader_nextToken B (Z1 40)))) 40 6 x 40 0 = f_Reader_fail 1 (f_Reader_nextToken B (Z1 40)) 0 := fun x => by rw [u2_i (by decide) rfl, up_same]
      have e1 : ∀ x, u2 (va_up (va_up Z1 40 (f_Reader_nextToken B (Z1 40))) 40 (f_Reader_fail 1 (f_Reader_nextToken B (Z1 40)))) 40 6 x 40 1 = f_Reader_fail 1 (f_Reader_nextToken B (Z1 40)) 1 := fun x => by rw [u2_i (by decide) rfl, up_same]
      rw [up_x (by rw [e1]; exact f2.ne)]
      refine ⟨⟨cy.r.r.k (by omega), rg.1, Or.inr (f2.r (e1 _) (e0 _))⟩, rg, fun t ht => mu_a h0 h9 ht f2.2.1⟩
  · rw [fr1, if_neg c1.2.1]
    have b2 : Bad (Z1 40) (u2 (f_Mod_clause1 V) 100 72 (f_Mod_clause1 V 100 72 + 1)) := c1.i (by omega)
    have z1 := c1.ne
    rw [up_x z1, up_f z1, ite_self]
    have e0 : u2 Z1 40 6 (Z1 40 6 + 1) 40 0 = Z1 40 0 := u2_i (by decide) rfl
    have e1 : u2 Z1 40 6 (Z1 40 6 + 1) 40 1 = Z1 40 1 := u2_i (by decide) rfl
    rw [up_x (by rw [e1]; exact z1)]
    exact ⟨⟨cy.k (by omega), st.1, Or.inr (b2.r e1 e0)⟩, st, fun t ht => mu_a h0 h9 ht b2.2.1⟩
/-- the whole text -/
theorem lp_all {B : Nat → Int32} {x : Int32} {n m : Nat} : ∀ (t k : Nat) (Z V : Zf), k + t ≤ 1000 → Lp B k Z V → muB V < t + 1 → ∃ Q U, f_Reader_readText_58 B m t Z k = Q ∧ f_Mod_bus_116 x (t + 1) V n = f_Mod_bus_179 x U n ∧ RM V U ∧ YQ Q ∧ ((Kc B (Q 40) U ∧ ∃ c, PlR c Q U) ∨ Bad (Q 40) U) := by
  intro t
  induction t with
  | zero =>
    intro k Z V _ h ht
    refine ⟨Z, V, rfl, ?_, RM.self h.2.1, h.1, ?_⟩
    · rcases h.2.2 with ⟨a, -, -⟩ | a
      · have q : V 100 49 = 0 := Classical.byContradiction fun y => by rw [mu_in a.1.2 y] at ht; omega
        rw [f_Mod_bus_116, if_pos a.1.2, if_pos q]
      · rw [f_Mod_bus_116, if_neg a.2.1]
    · rcases h.2.2 with ⟨a, b, -⟩ | a
      · exact Or.inl ⟨a, k, b⟩
      · exact Or.inr a
  | succ t ih =>
    intro k Z V hk h ht
    obtain ⟨hy, hR, h⟩ := h
    rw [f_Reader_readText_58]
    rcases h with ⟨a, b, c⟩ | a
    · by_cases q : V 100 49 = 0
      · refine ⟨Z, V, ?_, ?_, RM.self hR, hy, Or.inl ⟨a, k, b⟩⟩
        · have e9 : Z 40 9 = 0 := by
            obtain ⟨-, -, -, _, _, _, -, -, -, e, -⟩ := a
            rw [e]; exact q
          rw [if_pos a.1.1, if_pos e9, ite_self]
        · rw [f_Mod_bus_116, if_pos a.1.2, if_pos q]
      · have hl : k < pN V 100 46 := by
          rcases c with c | c
          · exact absurd c q
          · exact c
        obtain ⟨s1, s2, s3⟩ := lp_st (by omega) hy hR a b q hl
        have e9 : ¬ Z 40 9 = 0 := by
          obtain ⟨-, -, -, _, _, _, -, -, -, e, -⟩ := a
          rw [e]; exact q
        have e3 : ¬ Z 40 3 ≤ nI k := by
          obtain ⟨-, -, -, a', e', n', u1, ⟨u2, -, -⟩, ⟨-, u5, -⟩, -⟩ := a
          rw [pN_mk (by omega) u5] at hl
          rw [u2, nI_leI (by omega) (by omega)]; omega
        rw [if_neg e3, if_pos a.1.1, if_neg e9, nx_eq a.1.2 q]
        obtain ⟨Q, U, i1, i2, i3, i4, i5⟩ := ih (k + 1) (nxZ B Z) (nxV V) (by omega) s1 (s3 (t + 1) ht)
        exact ⟨Q, U, i1, i2, s2.trans i3, i4, i5⟩
    · refine ⟨Z, V, ?_, ?_, RM.self hR, hy, Or.inr a⟩
      · rw [if_neg a.ne, ite_self]
      · rw [f_Mod_bus_116, if_neg a.2.1]
