/-! the plan read so far, alike on both sides; the short clauses -/
def BkR (Z V : Zf) (k : Nat) : Prop := (Z 0 k = V 55 k ∧ Z 1 k = V 53 k ∧ Z 2 k = V 54 k) ∧ (Z 0 k = 0 → Z 3 k = V 56 k ∧ ∃ p, p < 4 ∧ Z 3 k = nI p) ∧ (Z 0 k = 1 → (Z 4 k = V 56 k ∧ Z 5 k = V 57 k ∧ Z 7 k = V 58 k) ∧ (Z 7 k = 1 ∨ Z 7 k = 2) ∧ (Z 8 k = 0 ↔ ¬ V 59 k = 1)) ∧ (Z 0 k = 2 → Z 3 k = V 56 k ∧ Z 6 k = V 57 k ∧ ∃ r, r ≤ 1000 ∧ Z 6 k = nI r) ∧ (Z 0 k = 3 → (Z 9 k = 0 ↔ ¬ V 56 k = 1))
def LkP (V : Zf) (k w : Nat) (x : Int32) : Prop := (x = -1 ∧ ∀ l, l < pN V 100 68 → ¬ (pN V 61 l = k ∧ pN V 62 l = w)) ∨ ∃ l, l < pN V 100 68 ∧ x = nI l ∧ pN V 61 l = k ∧ pN V 62 l = w
def SfP (V : Zf) (k : Nat) (x : Int32) : Prop := (x = -1 ∧ ∀ l, l < pN V 100 68 → ¬ (pN V 60 l = k ∧ pN V 62 l = 2)) ∨ ∃ l, l < pN V 100 68 ∧ x = nI l ∧ pN V 60 l = k ∧ pN V 62 l = 2
def UqL (V : Zf) : Prop := ∀ l m, l < pN V 100 68 → m < pN V 100 68 → (pN V 61 l = pN V 61 m → pN V 62 l = pN V 62 m → l = m) ∧ (pN V 60 l = pN V 60 m → pN V 62 l = 2 → pN V 62 m = 2 → l = m)
def PlB (Z V : Zf) : Prop := (Z 30 3 = V 100 67 ∧ Z 31 0 = V 100 68) ∧ (∀ k, k < pN V 100 67 → BkR Z V k) ∧ (∀ l, l < pN V 100 68 → Z 12 l = V 60 l ∧ Z 13 l = V 61 l ∧ Z 14 l = V 62 l) ∧ ((∀ k w, k < pN V 100 67 → w < 3 → LkP V k w (Z 10 (k * 3 + w))) ∧ ∀ k, k < pN V 100 67 → SfP V k (Z 11 k)) ∧ UqL V ∧ ∀ l, l < pN V 100 68 → (pN V 60 l < pN V 100 67 ∧ pN V 61 l < pN V 100 67) ∧ (pN V 62 l = 2 → V 55 (pN V 61 l) = 1 ∨ V 55 (pN V 61 l) = 2)
def PlP (Z V : Zf) : Prop := ∀ s, s < 4 → Z 15 s = V 63 s ∧ (¬ Z 15 s = -1 → Z 16 s = V 64 s ∧ Z 17 s = V 65 s ∧ ∃ g, (1 ≤ g ∧ g ≤ 50) ∧ Z 17 s = nI g)
def PlH (Z V : Zf) : Prop := (Z 30 0 = V 100 66 ∧ Z 30 1 = V 100 69 ∧ Z 30 2 = V 100 70) ∧ (∃ d, (1 ≤ d ∧ d ≤ 5) ∧ V 100 66 = nI d) ∧ ∃ o, o ≤ 9 ∧ V 100 70 = nI o
def OnR (x y w : Int32) : Prop := (x = 0 ∧ y = 0 ∧ w = 0) ∨ (x = 1 ∧ y = 0 ∧ w = 16) ∨ (x = 0 ∧ y = 1 ∧ w = 32) ∨ (x = 1 ∧ y = 1 ∧ w = 48)
def PlC (c : Nat) (Z V : Zf) : Prop := (Z 40 6 = nI c ∧ V 100 72 = nI c) ∧ OnR (Z 40 7) (Z 40 8) (V 100 71)
def PlR (c : Nat) (Z V : Zf) : Prop := PlB Z V ∧ PlP Z V ∧ PlH Z V ∧ PlC c Z V
/-- a clause, once it is read -/
def CR (B : Nat → Int32) (c : Nat) (Z V : Zf) : Prop := YQ Z ∧ ((Kt B (Z 40) V ∧ PlR c Z V) ∨ Bad (Z 40) V)
theorem PlB.fr {Z Q V U : Zf} (h : PlB Z V) (hz : ∀ k, k ≤ 14 → Q k = Z k) (h3 : Q 30 3 = Z 30 3) (h4 : Q 31 0 = Z 31 0) (hv : ∀ k, 53 ≤ k → k ≤ 62 → U k = V k) (h7 : U 100 67 = V 100 67) (h8 : U 100 68 = V 100 68) : PlB Q U := by
  unfold PlB BkR LkP SfP UqL pN at *
  rw [hz 0 (by omega), hz 1 (by omega), hz 2 (by omega), hz 3 (by omega), hz 4 (by omega), hz 5 (by omega), hz 6 (by omega), hz 7 (by omega), hz 8 (by omega), hz 9 (by omega), hz 10 (by omega), hz 11 (by omega), hz 12 (by omega), hz 13 (by omega), hz 14 (by omega), h3, h4, hv 53 (by omega) (by omega), hv 54 (by omega) (by omega), hv 55 (by omega) (by omega), hv 56 (by omega) (by omega), hv 57 (by omega) (by omega), hv 58 (by omega) (by omega), hv 59 (by omega) (by omega), hv 60 (by omega) (by omega), hv 61 (by omega) (by omega), hv 62 (by omega) (by omega), h7, h8]
  exact h
theorem PlP.fr {Z Q V U : Zf} (h : PlP Z V) (hz : ∀ k, 15 ≤ k → k ≤ 17 → Q k = Z k) (hv : ∀ k, 63 ≤ k → k ≤ 65 → U k = V k) : PlP Q U := by
  unfold PlP at *
  rw [hz 15 (by omega) (by omega), hz 16 (by omega) (by omega), hz 17 (by omega) (by omega), hv 63 (by omega) (by omega), hv 64 (by omega) (by omega), hv 65 (by omega) (by omega)]
  exact h
theorem PlH.fr {Z Q V U : Zf} (h : PlH Z V) (h0 : Q 30 0 = Z 30 0) (h1 : Q 30 1 = Z 30 1) (h2 : Q 30 2 = Z 30 2) (h6 : U 100 66 = V 100 66) (h9 : U 100 69 = V 100 69) (h7 : U 100 70 = V 100 70) : PlH Q U := by
  unfold PlH at *
  rw [h0, h1, h2, h6, h9, h7]; exact h
theorem PlC.fr {c : Nat} {Z Q V U : Zf} (h : PlC c Z V) (h0 : Q 40 6 = Z 40 6) (h1 : Q 40 7 = Z 40 7) (h2 : Q 40 8 = Z 40 8) (h6 : U 100 72 = V 100 72) (h9 : U 100 71 = V 100 71) : PlC c Q U := by
  unfold PlC at *
  rw [h0, h1, h2, h6, h9]; exact h
theorem KG.i {V U : Zf} (h : KG V U) {i : Nat} (hi : 52 < i) : U 100 i = V 100 i := h.2 i (by unfold goK; omega)
theorem KG.k {V U : Zf} (h : KG V U) {k : Nat} (hk : k ≠ 100) : U k = V k := h.1 k hk
theorem PlR.kg {c : Nat} {Z V U : Zf} {Q : Nat → Int32} (h : PlR c Z V) (g : KG V U) (r : RFr (Z 40) Q) : PlR c (va_up Z 40 Q) U := by
  obtain ⟨h1, h2, h3, h4⟩ := h
  have uz : ∀ k, k ≠ 40 → va_up Z 40 Q k = Z k := fun k hk => up_ne hk rfl
  refine ⟨h1.fr (fun k hk => uz k (by omega)) (by rw [uz 30 (by decide)]) (by rw [uz 31 (by decide)]) (fun k a b => g.k (by omega)) (g.i (by omega)) (g.i (by omega)), h2.fr (fun k a b => uz k (by omega)) (fun k a b => g.k (by omega)), h3.fr (by rw [uz 30 (by decide)]) (by rw [uz 30 (by decide)]) (by rw [uz 30 (by decide)]) (g.i (by omega)) (g.i (by omega)) (g.i (by omega)), h4.fr ?_ ?_ ?_ (g.i (by omega)) (g.i (by omega))⟩
  · rw [up_same]; exact r 6 (by decide) (by decide) (by decide)
  · rw [up_same]; exact r 7 (by decide) (by decide) (by decide)
  · rw [up_same]; exact r 8 (by decide) (by decide) (by decide)
theorem KG.rf {V : Zf} : KG V V := KG.self V
theorem YQ.fr {Z Q : Zf} (h : YQ Z) (e : ∀ k, k = 0 ∨ k = 1 ∨ (10 ≤ k ∧ k ≤ 14) ∨ k = 18 → Q k = Z k) : YQ Q := by
  unfold YQ isN isM pN at *
  rw [e 0 (by omega), e 1 (by omega), e 10 (by omega), e 11 (by omega), e 12 (by omega), e 13 (by omega), e 14 (by omega), e 18 (by omega)]; exact h
theorem YQ.k {Z : Zf} {k i : Nat} {v : Int32} (h : YQ Z) (hk : (1 < k ∧ k < 10) ∨ (14 < k ∧ k ≠ 18)) : YQ (u2 Z k i v) := h.fr (fun j hj => u2_k (by omega))
theorem YQ.r {Z : Zf} {f : Nat → Int32} (h : YQ Z) : YQ (va_up Z 40 f) := h.fr (fun j hj => up_ne (by omega) rfl)
/-- once a fault is found nothing more is read -/
theorem nx_b {B R : Nat → Int32} (h : ¬ R 1 = 0) : f_Reader_nextToken B R = R := by unfold f_Reader_nextToken; rw [if_neg h]
theorem fl_b {R : Nat → Int32} {e : Int32} (h : ¬ R 1 = 0) : f_Reader_fail e R = R := by unfold f_Reader_fail; rw [if_neg h]
theorem rn_b {B R : Nat → Int32} {lo hi : Int32} (h : ¬ R 1 = 0) : f_Reader_readNumber B lo hi R = (lo, R) := by
  unfold f_Reader_readNumber f_Reader_readNumber_4
  rw [nx_b h]
  unfold f_Reader_readNumber_24 f_Reader_readNumber_39
  rw [fl_b h, fl_b h, if_neg h]
  repeat' split
  all_goals rfl
theorem ch_b {B R : Nat → Int32} {i j : Nat} (h : ¬ R 1 = 0) : (f_Reader_readChoice B i j R).2 = R := by
  unfold f_Reader_readChoice f_Reader_readChoice_4 f_Reader_readChoice_10
  rw [nx_b h, fl_b h]
  repeat' split
  all_goals rfl
theorem Bad.ne {R : Nat → Int32} {V : Zf} (h : Bad R V) : ¬ R 1 = 0 := fun z => h.2.1 (by rw [← h.1]; exact z)
theorem Bad.v {R : Nat → Int32} {V U : Zf} (h : Bad R V) (e1 : U 100 52 = V 100 52) (e2 : U 100 33 = V 100 33) : Bad R U := by unfold Bad at *; rw [e1, e2]; exact h
theorem Bad.r {R Q : Nat → Int32} {V : Zf} (h : Bad R V) (e1 : Q 1 = R 1) (e2 : Q 0 = R 0) : Bad Q V := by unfold Bad at *; rw [e1, e2]; exact h
theorem Bad.k {R : Nat → Int32} {V : Zf} {k i : Nat} {v : Int32} (h : Bad R V) (hk : k ≠ 100) : Bad R (u2 V k i v) := h.v (by rw [u2_k (by omega)]) (by rw [u2_k (by omega)])
theorem Bad.i {R : Nat → Int32} {V : Zf} {i : Nat} {v : Int32} (h : Bad R V) (hi : 52 < i) : Bad R (u2 V 100 i v) := h.v (u2_i (by omega) rfl) (u2_i (by omega) rfl)
theorem rn_1 {B : Nat → Int32} {lo hi v : Nat} {R Q : Nat → Int32} (h : f_Reader_readNumber B (nI lo) (nI hi) R = (nI v, Q)) (hv : v < 2000) : rnN B lo hi R = v := by unfold rnN; rw [h]; exact nI_clamp (by omega)
theorem rn_2 {B : Nat → Int32} {lo hi : Int32} {v : Int32} {R Q : Nat → Int32} (h : f_Reader_readNumber B lo hi R = (v, Q)) : (f_Reader_readNumber B lo hi R).2 = Q := by rw [h]
theorem u2up {Z : Zf} {f : Nat → Int32} {k i : Nat} {v : Int32} (hk : k ≠ 40) : u2 (va_up Z 40 f) k i v 40 = f := by rw [u2_k (by omega), up_same]
/-- devices -/
theorem bd_12 {B : Nat → Int32} {c : Nat} {Z V U : Zf} (hy : YQ Z) (h : Bad (Z 40) U) : CR B c (f_Reader_readDevices_12 B Z) U := by
  unfold f_Reader_readDevices_12
  rw [rn_b h.ne]
  exact ⟨hy.r.k (by omega), Or.inr (by rw [u2up (by decide)]; exact h)⟩
theorem cl_dev {B : Nat → Int32} {c : Nat} {Z V : Zf} (hc : c < 2000) (hy : YQ Z) (h : Kc B (Z 40) V) (hp : PlR c Z V) : CR B c (f_Reader_readDevices B Z) (if V 100 72 = 0 then f_Mod_clause1_108 V else (f_Mod_wants 0 4 V).2) := by
  have e6 := hp.2.2.2.1
  have q0 : nI c ≤ 0 ↔ c = 0 := by
    rw [show (0 : Int32) = nI 0 from rfl, nI_leI (by omega) (by omega)]; omega
  have q1 : nI c = 0 ↔ c = 0 := by
    rw [show (0 : Int32) = nI 0 from rfl, nI_eq (by omega) (by omega)]
  unfold f_Reader_readDevices
  rw [e6.1, e6.2]
  by_cases q : c = 0
  · rw [if_pos (q0.mpr q), if_pos (q1.mpr q)]
    obtain ⟨g1, g2⟩ := h.go
    unfold f_Mod_clause1_108 f_Mod_clause1_112
    rcases num_rel (lo := 1) (hi := 5) g1 (by omega) (by omega) with ⟨v, Q, U, a1, a2, a3, a4, a5, a6⟩ | ⟨Q, U, a2, a3, a4⟩
    · unfold f_Reader_readDevices_12
      rw [a3, rn_1 a2 (by omega), rn_2 a2]
      refine ⟨hy.r.k (by omega), Or.inl ⟨by rw [u2up (by decide)]; exact a4.i (by omega), ?_⟩⟩
      obtain ⟨b1, b2, b3, b4⟩ := hp.kg (g2.trans a6) a5
      refine ⟨b1.fr (fun k hk => u2_k (by omega)) (u2_i (by decide) rfl) (by rw [u2_k (by decide)]) (fun k _ _ => u2_k (by omega)) (u2_i (by decide) rfl) (u2_i (by decide) rfl), b2.fr (fun k _ _ => u2_k (by omega)) (fun k _ _ => u2_k (by omega)), ?_, b4.fr (by rw [u2_k (by decide)]) (by rw [u2_k (by decide)]) (by rw [u2_k (by decide)]) (u2_i (by decide) rfl) (u2_i (by decide) rfl)⟩
      obtain ⟨⟨-, d1, d2⟩, -, d3⟩ := b3
      refine ⟨⟨by rw [u2_s]; exact u2_s.symm, ?_, ?_⟩, ⟨v, a1, u2_s⟩, ?_⟩
      · rw [u2_i (by decide) rfl]; exact d1.trans (u2_i (by decide) rfl).symm
      · rw [u2_i (by decide) rfl]; exact d2.trans (u2_i (by decide) rfl).symm
      · obtain ⟨o, o1, o2⟩ := d3
        exact ⟨o, o1, (u2_i (by decide) rfl).trans o2⟩
    · unfold f_Reader_readDevices_12
      rw [a3, rn_2 a2]
      exact ⟨hy.r.k (by omega), Or.inr (by rw [u2up (by decide)]; exact a4.i (by omega))⟩
  · rw [if_neg (fun z => q (q0.mp z)), if_neg (fun z => q (q1.mp z))]
    obtain ⟨f1, f2⟩ := h.fl (e := 4) (by decide)
    rw [f1]
    exact bd_12 (V := V) hy.r (by rw [up_same]; exact f2)
