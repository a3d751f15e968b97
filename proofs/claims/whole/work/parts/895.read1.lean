/-! one token after the other, alike on both sides -/
def RFr (R Q : Nat → Int32) : Prop := ∀ i, i ≠ 4 → i ≠ 9 → i ≠ 10 → Q i = R i
theorem RFr.u {R Q : Nat → Int32} {k : Nat} {v : Int32} (h : RFr R Q) (hk : k = 4 ∨ k = 9 ∨ k = 10) : RFr R (upd Q k v) := fun i a b c => by rw [ud_o (by omega)]; exact h i a b c
theorem tr_fu {B : Nat → Int32} {lo hi : Int32} {n : Nat} (hn : n ≤ 900) : ∀ (t t' p : Nat) (R : Nat → Int32), R 3 = nI n → R 4 = nI p → p ≤ n → n - p < t → n - p < t' → f_Reader_takeRow_L B lo hi t R = f_Reader_takeRow_L B lo hi t' R := by
  intro t
  induction t with
  | zero => intro t' p R _ _ _ h; omega
  | succ t ih =>
    intro t' p R r3 r4 hp h1 h2
    cases t' with
    | zero => omega
    | succ t' =>
      rw [f_Reader_takeRow_L, f_Reader_takeRow_L, r3, r4]
      by_cases q : nI n ≤ nI p
      · rw [if_pos q, if_pos q]
      · rw [if_neg q, if_neg q, nI_1]
        rw [nI_leI (by omega) (by omega)] at q
        rw [ih t' (p + 1) (upd R 4 (nI (p + 1))) (by rw [ud_o (by decide)]; exact r3) ud_s (by omega) (by omega) (by omega)]
theorem go_166k : ∀ (t : Nat) (V : Zf), f_Mod_go_166 t V 100 48 = V 100 48 := by
  intro t
  induction t with
  | zero => intro V; rfl
  | succ t ih =>
    intro V
    rw [f_Mod_go_166]
    by_cases q1 : f_Mod_byteAt (pN V 100 46) V < 48
    · rw [if_pos q1, u2_i (by decide) rfl]
    rw [if_neg q1]
    by_cases q2 : 57 < f_Mod_byteAt (pN V 100 46) V
    · rw [if_pos q2, u2_i (by decide) rfl]
    rw [if_neg q2]
    by_cases q3 : 4 ≤ nI (pN V 100 46) - V 100 47
    · rw [if_pos q3, ih, u2_i (by decide) rfl, u2_i (by decide) rfl]
    · rw [if_neg q3, ih, u2_i (by decide) rfl, u2_i (by decide) rfl]
theorem go_103k : ∀ (t : Nat) (V : Zf), f_Mod_go_103 t V 100 48 = V 100 48 := by
  intro t
  induction t with
  | zero => intro V; rfl
  | succ t ih =>
    intro V
    rw [f_Mod_go_103]
    by_cases q1 : f_Mod_isLetter (f_Mod_byteAt (pN V 100 46) V) = 0
    · rw [if_pos q1, u2_i (by decide) rfl, u2_i (by decide) rfl]
    · rw [if_neg q1, ih, u2_i (by decide) rfl]
theorem go_rel {B R : Nat → Int32} {V : Zf} {n p : Nat} (r1 : R 1 = 0) (r3 : R 3 = nI n) (r4 : R 4 = nI p) (v48 : V 100 48 = nI n) (v46 : V 100 46 = nI p) (hp : p ≤ n) (hn : n ≤ 900) (hT : ∀ i, i < n → ByR (B i) (V 31 i)) : CurR B (f_Reader_nextToken B R) (s_Mod_go V) ∧ RFr R (f_Reader_nextToken B R) := by
  rw [s_go]
  unfold f_Reader_nextToken f_Mod_go
  rw [if_pos r1, fu_eq]
  obtain ⟨q, q1, q2, q3, q4⟩ := sk_lp hn 901 p R V r3 r4 v48 v46 hp (by omega) hT
  rw [q3, q4]
  have f1 : RFr R (upd R 4 (nI q)) := fun i a _ _ => ud_o a
  have a3 : upd R 4 (nI q) 3 = nI n := by rw [ud_o (by decide)]; exact r3
  have a4 : upd R 4 (nI q) 4 = nI q := ud_s
  generalize upd R 4 (nI q) = R1 at f1 a3 a4 ⊢
  have u48 : u2 V 100 46 (nI q) 100 48 = nI n := by rw [u2_i (by decide) rfl]; exact v48
  have u46 : u2 V 100 46 (nI q) 100 46 = nI q := u2_s
  have uT : ∀ i, i < n → ByR (B i) (u2 V 100 46 (nI q) 31 i) := fun i hi => by rw [u2_k (by decide)]; exact hT i hi
  generalize u2 V 100 46 (nI q) = U at u48 u46 uT ⊢
  clear q3 q4 hT v46 v48 r3 r4
  unfold f_Reader_nextToken_60 f_Reader_nextToken_68 f_Mod_go_50
  rw [pN_mk (by omega) u46, pN_mk (by omega) u48, a4, ud_o (by decide), ud_o (by decide), a3, a4]
  have f2 : RFr R (upd R1 10 (nI q)) := f1.u (by omega)
  have b3 : upd R1 10 (nI q) 3 = nI n := by rw [ud_o (by decide)]; exact a3
  have b4 : upd R1 10 (nI q) 4 = nI q := by rw [ud_o (by decide)]; exact a4
  have b10 : upd R1 10 (nI q) 10 = nI q := ud_s
  generalize upd R1 10 (nI q) = R2 at f2 b3 b4 b10 ⊢
  by_cases h : q < n
  · rw [if_pos (show nI q < nI n by rw [nI_ltI (by omega) (by omega)]; exact h), if_pos h]
    rw [ba_of (Q := u2 U 100 47 (nI q)) (Z := U) (by rw [u2_k (by decide)]) (by rw [u2_i (by decide) rfl]), ba_in u48 hn h]
    unfold f_Reader_nextToken_85
    rw [b4, nI_clamp (by omega), nI_1]
    have f3 : RFr R (upd R2 4 (nI (q + 1))) := f2.u (by omega)
    have c3 : upd R2 4 (nI (q + 1)) 3 = nI n := by rw [ud_o (by decide)]; exact b3
    have c4 : upd R2 4 (nI (q + 1)) 4 = nI (q + 1) := ud_s
    have c10 : upd R2 4 (nI (q + 1)) 10 = nI q := by rw [ud_o (by decide)]; exact b10
    generalize upd R2 4 (nI (q + 1)) = R3 at f3 c3 c4 c10 ⊢
    have w48 : u2 (u2 (u2 U 100 47 (nI q)) 100 51 (-1)) 100 50 0 100 48 = nI n := by rw [u2_i (by decide) rfl, u2_i (by decide) rfl, u2_i (by decide) rfl]; exact u48
    have w46 : u2 (u2 (u2 U 100 47 (nI q)) 100 51 (-1)) 100 50 0 100 46 = nI q := by rw [u2_i (by decide) rfl, u2_i (by decide) rfl, u2_i (by decide) rfl]; exact u46
    have w47 : u2 (u2 (u2 U 100 47 (nI q)) 100 51 (-1)) 100 50 0 100 47 = nI q := by rw [u2_i (by decide) rfl, u2_i (by decide) rfl, u2_s]
    have w51 : u2 (u2 (u2 U 100 47 (nI q)) 100 51 (-1)) 100 50 0 100 51 = -1 := by rw [u2_i (by decide) rfl, u2_s]
    have w50 : u2 (u2 (u2 U 100 47 (nI q)) 100 51 (-1)) 100 50 0 100 50 = 0 := u2_s
    have wb : u2 (u2 (u2 U 100 47 (nI q)) 100 51 (-1)) 100 50 0 31 = U 31 := by rw [u2_k (by decide), u2_k (by decide), u2_k (by decide)]
    generalize u2 (u2 (u2 U 100 47 (nI q)) 100 51 (-1)) 100 50 0 = U3 at w48 w46 w47 w51 w50 wb ⊢
    have bq := uT q h
    have t97 : (97 : Int32).toInt = 97 := by decide
    have t122 : (122 : Int32).toInt = 122 := by decide
    have t48 : (48 : Int32).toInt = 48 := by decide
    have t57 : (57 : Int32).toInt = 57 := by decide
    have t59 : (59 : Int32).toInt = 59 := by decide
    -- a sign that is neither letter nor digit
    have oth : ∀ k : Int32, (k = 3 ∨ k = 4) → CurR B (upd R3 9 k) (u2 (u2 U3 100 46 (nI (q + 1))) 100 49 k) ∧ RFr R (upd R3 9 k) := by
      intro k hk
      have k1 : ¬ k = 1 := by rcases hk with rfl | rfl <;> decide
      have k2 : ¬ k = 2 := by rcases hk with rfl | rfl <;> decide
      refine ⟨⟨q, q + 1, n, by omega, ⟨?_, ?_, ?_⟩, ⟨?_, ?_, ?_⟩, ?_, ?_, ?_⟩, f3.u (by omega)⟩
      · rw [ud_o (by decide)]; exact c3
      · rw [ud_o (by decide)]; exact c4
      · rw [ud_o (by decide)]; exact c10
      · rw [u2_i (by decide) rfl, u2_i (by decide) rfl]; exact w48
      · rw [u2_i (by decide) rfl, u2_s]
      · rw [u2_i (by decide) rfl, u2_i (by decide) rfl]; exact w47
      · rw [ud_s, u2_s]
      · intro z; rw [ud_s] at z; exact absurd z k2
      · exact wd_no (by rw [ud_s]; exact k1) (by rw [u2_i (by decide) rfl, u2_i (by decide) rfl]; exact w51)
    unfold f_Reader_nextToken_105 f_Mod_isLetter f_Reader_takeRow
    rw [fu_eq]
    rcases bq with ⟨y1, y2, y3⟩ | ⟨y1, y2⟩
    · rw [y3]
      by_cases l1 : B q < 97
      · rw [if_pos l1, if_pos l1, if_pos rfl]
        by_cases l2 : B q < 48
        · rw [if_pos l2, if_pos l2]
          by_cases l3 : B q = 59
          · rw [if_pos l3, if_pos l3]; exact oth 3 (Or.inl rfl)
          · rw [if_neg l3, if_neg l3]; exact oth 4 (Or.inr rfl)
        · rw [if_neg l2, if_neg l2]
          by_cases l4 : 57 < B q
          · rw [if_pos l4, if_pos l4]
            by_cases l3 : B q = 59
            · rw [if_pos l3, if_pos l3]; exact oth 3 (Or.inl rfl)
            · rw [if_neg l3, if_neg l3]; exact oth 4 (Or.inr rfl)
          · rw [if_neg l4, if_neg l4]
            -- digits
            rw [f_Mod_go_166, pN_mk (by omega) w46, ba_in w48 hn h, wb, y3, if_neg l2, if_neg l4, w47, sub_nI (Nat.le_refl _), Nat.sub_self, if_neg (by decide), w50]
            have d3 : upd R3 9 2 3 = nI n := by rw [ud_o (by decide)]; exact c3
            have d4 : upd R3 9 2 4 = nI (q + 1) := by rw [ud_o (by decide)]; exact c4
            have x48 : u2 (u2 U3 100 50 (10 * 0 + B q - 48)) 100 46 (nI (q + 1)) 100 48 = nI n := by rw [u2_i (by decide) rfl, u2_i (by decide) rfl]; exact w48
            obtain ⟨e, e1, e2, e3, e4, e5, e6, e7, e8⟩ := dg_lp (a := q) hn 900 (q + 1) (upd R3 9 2) (u2 (u2 U3 100 50 (10 * 0 + B q - 48)) 100 46 (nI (q + 1))) d3 d4 x48 u2_s (by rw [u2_i (by decide) rfl, u2_i (by decide) rfl]; exact w47) (by
              rw [u2_i (by decide) rfl, u2_s]
              unfold nv
              rw [if_pos (by omega), show q + 1 - q = 0 + 1 by omega]
              rfl) (by omega) (by omega) (by omega) (fun i hi => by rw [u2_k (by decide), u2_k (by decide), wb]; exact uT i hi)
            rw [tr_fu hn 901 900 (q + 1) (upd R3 9 2) d3 d4 (by omega) (by omega) (by omega), e3]
            have kg := (go_166k 900 (u2 (u2 U3 100 50 (10 * 0 + B q - 48)) 100 46 (nI (q + 1))))
            have ra : upd (upd R3 9 2) 4 (nI e) 10 = nI q := by rw [ud_o (by decide), ud_o (by decide)]; exact c10
            refine ⟨⟨q, e, n, by omega, ⟨?_, ud_s, ra⟩, ⟨?_, e4, e5⟩, ?_, ?_, ?_⟩, (f3.u (by omega)).u (by omega)⟩
            · rw [ud_o (by decide)]; exact d3
            · rw [kg]; exact x48
            · rw [ud_o (by decide), ud_s, e6]
            · intro _
              rw [nt_sp ra ud_s (by omega) (by omega), e8]
              unfold nv NumR
              by_cases z : e - q ≤ 4
              · rw [if_pos z, if_pos z]; exact Or.inl rfl
              · rw [if_neg z, if_neg z]; exact Or.inr ⟨rfl, rfl⟩
            · refine wd_no (by rw [ud_o (by decide), ud_s]; decide) ?_
              rw [e7, u2_i (by decide) rfl, u2_i (by decide) rfl]; exact w51
      · rw [if_neg l1, if_neg l1]
        have l2 : ¬ B q < 48 := by rw [i_lt] at *; omega
        have l4 : 57 < B q := by rw [i_lt] at *; omega
        by_cases l5 : 122 < B q
        · rw [if_pos l5, if_pos l5, if_pos rfl, if_neg l2, if_pos l4, if_neg l2, if_pos l4]
          have l3 : ¬ B q = 59 := fun z => by rw [z] at l5; exact absurd l5 (by decide)
          rw [if_neg l3, if_neg l3]; exact oth 4 (Or.inr rfl)
        · rw [if_neg l5, if_neg l5, if_neg (show ¬ (1 : Int32) = 0 by decide)]
          -- letters
          rw [f_Mod_go_103, pN_mk (by omega) w46, ba_in w48 hn h, wb, y3]
          unfold f_Mod_isLetter
          rw [if_neg l1, if_neg l5, if_neg (show ¬ (1 : Int32) = 0 by decide)]
          have d3 : upd R3 9 1 3 = nI n := by rw [ud_o (by decide)]; exact c3
          have d4 : upd R3 9 1 4 = nI (q + 1) := by rw [ud_o (by decide)]; exact c4
          have x48 : u2 U3 100 46 (nI (q + 1)) 100 48 = nI n := by rw [u2_i (by decide) rfl]; exact w48
          have xT : ∀ i, i < n → ByR (B i) (u2 U3 100 46 (nI (q + 1)) 31 i) := fun i hi => by rw [u2_k (by decide), wb]; exact uT i hi
          obtain ⟨e, e1, e2, e3, e4, e5, e6, e7⟩ := lt_lp (a := q) hn 900 (q + 1) (upd R3 9 1) (u2 U3 100 46 (nI (q + 1))) d3 d4 x48 u2_s (by rw [u2_i (by decide) rfl]; exact w47) (by omega) (by omega) (by omega) xT
          rw [tr_fu hn 901 900 (q + 1) (upd R3 9 1) d3 d4 (by omega) (by omega) (by omega), e3]
          have kg := (go_103k 900 (u2 U3 100 46 (nI (q + 1))))
          have ra : upd (upd R3 9 1) 4 (nI e) 10 = nI q := by rw [ud_o (by decide), ud_o (by decide)]; exact c10
          have r9 : upd (upd R3 9 1) 4 (nI e) 9 = 1 := by rw [ud_o (by decide), ud_s]
          refine ⟨⟨q, e, n, by omega, ⟨?_, ud_s, ra⟩, ⟨?_, e4, e5⟩, ?_, ?_, ?_⟩, (f3.u (by omega)).u (by omega)⟩
          · rw [ud_o (by decide)]; exact d3
          · rw [kg]; exact x48
          · rw [r9, e6]
          · intro z; rw [r9] at z; exact absurd z (by decide)
          · exact wd_of r9 ra ud_s (by omega) e2 hn x48 xT e7
    · have l1 : B q < 97 := by rw [i_lt]; omega
      have l2 : B q < 48 := by rw [i_lt]; omega
      have l3 : ¬ B q = 59 := fun z => by rw [z] at l2; exact absurd l2 (by decide)
      have m1 : ¬ U 31 q < 97 := by rw [i_lt]; omega
      have m2 : 122 < U 31 q := by rw [i_lt]; omega
      have m3 : ¬ U 31 q < 48 := by rw [i_lt]; omega
      have m4 : 57 < U 31 q := by rw [i_lt]; omega
      have m5 : ¬ U 31 q = 59 := fun z => by rw [z] at m2; exact absurd m2 (by decide)
      rw [if_pos l1, if_pos l2, if_neg l3, if_neg m1, if_pos m2, if_pos rfl, if_neg m3, if_pos m4, if_neg m5]
      exact oth 4 (Or.inr rfl)
  · have e : q = n := by omega
    subst e
    rw [if_neg (show ¬ nI q < nI q by rw [nI_ltI (by omega) (by omega)]; omega), if_neg h]
    refine ⟨⟨q, q, q, by omega, ⟨?_, ?_, ?_⟩, ⟨?_, ?_, ?_⟩, ?_, ?_, ?_⟩, f2.u (by omega)⟩
    · rw [ud_o (by decide)]; exact b3
    · rw [ud_o (by decide)]; exact b4
    · rw [ud_o (by decide)]; exact b10
    · rw [u2_i (by decide) rfl, u2_i (by decide) rfl, u2_i (by decide) rfl, u2_i (by decide) rfl]; exact u48
    · rw [u2_i (by decide) rfl, u2_i (by decide) rfl, u2_i (by decide) rfl, u2_i (by decide) rfl]; exact u46
    · rw [u2_i (by decide) rfl, u2_i (by decide) rfl, u2_i (by decide) rfl, u2_s]
    · rw [ud_s, u2_s]
    · intro z; rw [ud_s] at z; exact absurd z (by decide)
    · exact wd_no (by rw [ud_s]; decide) (by rw [u2_i (by decide) rfl, u2_i (by decide) rfl, u2_s])
