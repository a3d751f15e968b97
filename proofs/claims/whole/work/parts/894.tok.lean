/-! tokens, alike on both sides -/
def cwW (w : Nat) : Nat := [0, 1, 12, 16, 17, 18, 2, 3, 8, 9, 4, 5, 7, 6, 10, 11, 13, 14, 15].getD w 0
def wcI (i : Nat) : Nat := [0, 1, 6, 7, 10, 11, 13, 12, 8, 9, 14, 15, 2, 16, 17, 18, 3, 4, 5].getD i 0
def offI (w : Nat) : Nat := [0, 8, 14, 19, 25, 29, 34, 40, 44, 51, 56, 60, 65, 70, 76, 81, 87, 93, 99, 103].getD w 0
theorem kb_a : ∀ w, w < 19 → ∀ j, j < strL (cwW w) → knB.getD (offI w + j) 0 = strC (cwW w) j ∧ ¬ strC (cwW w) j = 32 := by decide +kernel
theorem kb_b : ∀ w, w < 19 → knB.getD (offI w + strL (cwW w)) 0 = 32 ∧ offI w + strL (cwW w) + 1 = offI (w + 1) ∧ offI (w + 1) ≤ 103 := by decide +kernel
theorem kb_c : ∀ w, w < 19 → ∀ u, u < 19 → strL (cwW w) = strL (cwW u) → (∀ j, j < strL (cwW w) → strC (cwW w) j = strC (cwW u) j) → w = u := by decide +kernel
theorem kb_d : ∀ i, i < 19 → wcI i < 19 ∧ cwW (wcI i) = i ∧ strL i < 9 ∧ ∀ j, j < strL i → 97 ≤ (strC i j).toInt ∧ (strC i j).toInt ≤ 122 := by decide +kernel
theorem kb_e : ∀ w, w < 19 → cwW w < 19 ∧ wcI (cwW w) = w := by decide +kernel
def mtW (V : Zf) (a z c : Nat) : Prop := z = a + strL c ∧ ∀ j, j < strL c → f_Mod_byteAt (a + j) V = strC c j
theorem wf_0 {a z w : Nat} {V : Zf} : ∀ (d k i t : Nat), (∀ j, j < d → ¬ knB.getD (i + j) 0 = 32) → knB.getD (i + d) 0 = 32 → i + d < 103 → f_Mod_wordFrom_11 a z (d + 1 + t) V w k 0 i = f_Mod_wordFrom_11 a z t V (w + 1) a 1 (i + d + 1) := by
  intro d
  induction d with
  | zero =>
    intro k i t _ h32 hi
    rw [show 0 + 1 + t = t + 1 by omega, f_Mod_wordFrom_11, if_neg (by omega), if_pos (show knB.getD i 0 = 32 from h32), if_pos rfl]
  | succ d ih =>
    intro k i t hn h32 hi
    rw [show d + 1 + 1 + t = (d + 1 + t) + 1 by omega, f_Mod_wordFrom_11, if_neg (by omega), if_neg (show ¬ knB.getD i 0 = 32 from hn 0 (by omega)), if_pos rfl, ih (k + 1) (i + 1) t (fun j hj => by rw [show i + 1 + j = i + (j + 1) by omega]; exact hn (j + 1) (by omega)) (by rw [show i + 1 + d = i + (d + 1) by omega]; exact h32) (by omega), show i + 1 + d + 1 = i + (d + 1) + 1 by omega]
theorem wf_1 {a z w c i0 : Nat} {V : Zf} (hk : ∀ j, j < strL c → knB.getD (i0 + j) 0 = strC c j ∧ ¬ strC c j = 32) (h32 : knB.getD (i0 + strL c) 0 = 32) (hi : i0 + strL c < 103) : ∀ (d j t : Nat), j + d = strL c → (∀ u, u < j → f_Mod_byteAt (a + u) V = strC c u) → (mtW V a z c ∧ f_Mod_wordFrom_11 a z (d + 1 + t) V w (a + j) 1 (i0 + j) = nI w) ∨ (¬ mtW V a z c ∧ f_Mod_wordFrom_11 a z (d + 1 + t) V w (a + j) 1 (i0 + j) = f_Mod_wordFrom_11 a z t V (w + 1) a 1 (i0 + strL c + 1)) := by
  intro d
  induction d with
  | zero =>
    intro j t hj hm
    have e : j = strL c := by omega
    subst e
    rw [show 0 + 1 + t = t + 1 by omega, f_Mod_wordFrom_11, if_neg (by omega), if_pos h32, if_neg (show ¬ (1 : Int32) = 0 by decide)]
    by_cases q : a + strL c = z
    · rw [if_pos q]; exact Or.inl ⟨⟨q.symm, hm⟩, rfl⟩
    · rw [if_neg q]; exact Or.inr ⟨fun h => q h.1.symm, rfl⟩
  | succ d ih =>
    intro j t hj hm
    obtain ⟨k1, k2⟩ := hk j (by omega)
    have fl : ¬ mtW V a z c → (mtW V a z c ∧ f_Mod_wordFrom_11 a z (d + 1 + t) V w (a + j + 1) 0 (i0 + j + 1) = nI w) ∨ (¬ mtW V a z c ∧ f_Mod_wordFrom_11 a z (d + 1 + t) V w (a + j + 1) 0 (i0 + j + 1) = f_Mod_wordFrom_11 a z t V (w + 1) a 1 (i0 + strL c + 1)) := by
      intro hn
      refine Or.inr ⟨hn, ?_⟩
      rw [wf_0 d (a + j + 1) (i0 + j + 1) t (fun u hu => ?_) (by rw [show i0 + j + 1 + d = i0 + strL c by omega]; exact h32) (by omega), show i0 + j + 1 + d + 1 = i0 + strL c + 1 by omega]
      obtain ⟨k3, k4⟩ := hk (j + 1 + u) (by omega)
      rw [show i0 + j + 1 + u = i0 + (j + 1 + u) by omega, k3]; exact k4
    rw [show d + 1 + 1 + t = (d + 1 + t) + 1 by omega, f_Mod_wordFrom_11, if_neg (by omega), if_neg (by rw [k1]; exact k2), if_neg (show ¬ (1 : Int32) = 0 by decide)]
    by_cases q : z ≤ a + j
    · rw [if_pos q]; exact fl (fun h => by have := h.1; omega)
    · rw [if_neg q, k1]
      by_cases q2 : f_Mod_byteAt (a + j) V = strC c j
      · rw [if_pos q2]
        exact ih (j + 1) t (by omega) (fun u hu => by
          by_cases e : u = j
          · subst e; exact q2
          · exact hm u (by omega))
      · rw [if_neg q2]; exact fl (fun h => q2 (h.2 j (by omega)))
theorem wf_all {a z : Nat} {V : Zf} : (∃ w, w < 19 ∧ mtW V a z (cwW w) ∧ f_Mod_wordFrom a z V = nI w) ∨ ((∀ w, w < 19 → ¬ mtW V a z (cwW w)) ∧ f_Mod_wordFrom a z V = -1) := by
  have key : ∀ (m w : Nat), w + m = 19 → (∃ u, w ≤ u ∧ u < 19 ∧ mtW V a z (cwW u) ∧ f_Mod_wordFrom_11 a z (104 - offI w) V w a 1 (offI w) = nI u) ∨ ((∀ u, w ≤ u → u < 19 → ¬ mtW V a z (cwW u)) ∧ f_Mod_wordFrom_11 a z (104 - offI w) V w a 1 (offI w) = -1) := by
    intro m
    induction m with
    | zero =>
      intro w hw
      have e : w = 19 := by omega
      subst e
      right
      refine ⟨fun u h1 h2 => by omega, ?_⟩
      rw [show 104 - offI 19 = 0 + 1 by decide, f_Mod_wordFrom_11, if_pos (by decide)]
    | succ m ih =>
      intro w hw
      obtain ⟨b1, b2, b3⟩ := kb_b w (by omega)
      rw [show 104 - offI w = strL (cwW w) + 1 + (104 - offI (w + 1)) by omega]
      rcases wf_1 (a := a) (z := z) (w := w) (V := V) (fun j hj => kb_a w (by omega) j hj) b1 (by omega) (strL (cwW w)) 0 (104 - offI (w + 1)) (by omega) (fun u hu => by omega) with ⟨c1, c2⟩ | ⟨c1, c2⟩
      · exact Or.inl ⟨w, by omega, by omega, c1, c2⟩
      · rw [show a + 0 = a by omega, show offI w + 0 = offI w by omega] at c2
        rw [c2, b2]
        rcases ih (w + 1) (by omega) with ⟨u, u1, u2, u3, u4⟩ | ⟨u1, u2⟩
        · exact Or.inl ⟨u, by omega, u2, u3, u4⟩
        · refine Or.inr ⟨fun u h1 h2 => ?_, u2⟩
          by_cases e : u = w
          · subst e; exact c1
          · exact u1 u (by omega) h2
  unfold f_Mod_wordFrom
  rw [fu_eq]
  rcases key 19 0 (by omega) with ⟨u, -, u2, u3, u4⟩ | ⟨u1, u2⟩
  · exact Or.inl ⟨u, u2, u3, u4⟩
  · exact Or.inr ⟨fun u h => u1 u (by omega) h, u2⟩
theorem iwd_28 {B R : Nat → Int32} {i a : Nat} (ha : R 10 = nI a) (ha2 : a < 1000) (hL : strL i < 9) : ∀ (t k : Nat), strL i - k < t → k ≤ strL i → (¬ f_Reader_isWord_28 B R i t k = 0 ↔ ∀ j, k ≤ j → j < strL i → B (a + j) = strC i j) := by
  intro t
  induction t with
  | zero => intro k h; omega
  | succ t ih =>
    intro k h hk
    rw [f_Reader_isWord_28]
    by_cases q : strL i ≤ k
    · rw [if_pos q]; exact ⟨fun _ j h1 h2 => by omega, fun _ => by decide⟩
    rw [if_neg q, ha, nI_add, nI_clamp (by omega)]
    by_cases q2 : B (a + k) = strC i k
    · rw [if_pos q2, ih (k + 1) (by omega) (by omega)]
      refine ⟨fun z j h1 h2 => ?_, fun z j h1 h2 => z j (by omega) h2⟩
      by_cases e : j = k
      · subst e; exact q2
      · exact z j (by omega) h2
    · rw [if_neg q2]; exact ⟨fun z => absurd rfl z, fun z => absurd (z k (by omega) (by omega)) q2⟩
theorem iwd_sp {B R : Nat → Int32} {i a e : Nat} (ha : R 10 = nI a) (he : R 4 = nI e) (h1 : a ≤ e) (h2 : e ≤ 900) (hi : i < 19) : ¬ f_Reader_isWord B R i = 0 ↔ R 9 = 1 ∧ e = a + strL i ∧ ∀ j, j < strL i → B (a + j) = strC i j := by
  have hL := (kb_d i hi).2.2.1
  unfold f_Reader_isWord
  by_cases q : R 9 = 1
  · rw [if_pos q, ha, he, sub_nI h1]
    by_cases q2 : nI (e - a) = nI (strL i)
    · have e1 := (nI_eq (by omega) (by omega)).mp q2
      rw [if_pos q2, iwd_28 ha (by omega) hL 9 0 (by omega) (by omega)]
      exact ⟨fun z => ⟨q, by omega, fun j hj => z j (by omega) hj⟩, fun z j _ hj => z.2.2 j hj⟩
    · rw [if_neg q2]
      exact ⟨fun z => absurd rfl z, fun z => absurd (by rw [z.2.1, Nat.add_sub_cancel_left]) q2⟩
  · rw [if_neg q]; exact ⟨fun z => absurd rfl z, fun z => absurd z.1 q⟩
theorem by_eq {x y c : Int32} (h : ByR x y) (hc : 0 ≤ c.toInt ∧ c.toInt < 128) : x = c ↔ y = c := by
  rcases h with ⟨-, -, h⟩ | ⟨h1, h2⟩
  · rw [h]
  · exact ⟨fun z => by rw [z] at h1; omega, fun z => by rw [z] at h2; omega⟩
theorem ba_in {V : Zf} {k n : Nat} (h48 : V 100 48 = nI n) (hn : n ≤ 900) (hk : k < n) : f_Mod_byteAt k V = V 31 k := by
  unfold f_Mod_byteAt
  rw [pN_mk (by omega) h48, if_neg (by omega)]
def WdR (B R : Nat → Int32) (V : Zf) : Prop := (∀ i, i < 19 → (¬ f_Reader_isWord B R i = 0 ↔ V 100 51 = nI (wcI i))) ∧ (V 100 51 = -1 ∨ ∃ w, w < 19 ∧ V 100 51 = nI w) ∧ (¬ R 9 = 1 → V 100 51 = -1)
def NumR (m v : Int32) : Prop := m = v ∨ (m = -1 ∧ v = 99999)
def CurR (B R : Nat → Int32) (V : Zf) : Prop := ∃ a e n, (a ≤ e ∧ e ≤ n ∧ n ≤ 900) ∧ (R 3 = nI n ∧ R 4 = nI e ∧ R 10 = nI a) ∧ (V 100 48 = nI n ∧ V 100 46 = nI e ∧ V 100 47 = nI a) ∧ R 9 = V 100 49 ∧ (R 9 = 2 → NumR (f_Reader_numberOfToken B R) (V 100 50)) ∧ WdR B R V
theorem wd_no {B R : Nat → Int32} {V : Zf} (h9 : ¬ R 9 = 1) (h51 : V 100 51 = -1) : WdR B R V := by
  refine ⟨fun i hi => ?_, Or.inl h51, fun _ => h51⟩
  have : f_Reader_isWord B R i = 0 := by unfold f_Reader_isWord; rw [if_neg h9]
  rw [this, h51]
  exact ⟨fun z => absurd rfl z, fun z => absurd z.symm (m1_ne (by have := (kb_d i hi).1; omega))⟩
theorem wd_of {B R : Nat → Int32} {V U : Zf} {a e n : Nat} (h9 : R 9 = 1) (ha : R 10 = nI a) (he : R 4 = nI e) (h1 : a ≤ e) (h2 : e ≤ n) (hn : n ≤ 900) (h48 : V 100 48 = nI n) (hT : ∀ i, i < n → ByR (B i) (V 31 i)) (h51 : U 100 51 = f_Mod_wordFrom a e V) : WdR B R U := by
  have mt : ∀ i, i < 19 → (¬ f_Reader_isWord B R i = 0 ↔ mtW V a e i) := by
    intro i hi
    rw [iwd_sp ha he h1 (by omega) hi]
    have kd := (kb_d i hi).2.2.2
    unfold mtW
    refine ⟨fun z => ⟨z.2.1, fun j hj => ?_⟩, fun z => ⟨h9, z.1, fun j hj => ?_⟩⟩
    · have := z.2.1
      rw [ba_in h48 hn (by omega)]
      exact (by_eq (hT _ (by omega)) (by have := kd j hj; omega)).mp (z.2.2 j hj)
    · have := z.1
      have y := z.2 j hj
      rw [ba_in h48 hn (by omega)] at y
      exact (by_eq (hT _ (by omega)) (by have := kd j hj; omega)).mpr y
  rcases wf_all (a := a) (z := e) (V := V) with ⟨w, w1, w2, w3⟩ | ⟨w1, w2⟩
  · refine ⟨fun i hi => ?_, Or.inr ⟨w, w1, by rw [h51, w3]⟩, fun z => absurd h9 z⟩
    rw [mt i hi, h51, w3]
    have kd := kb_d i hi
    refine ⟨fun z => ?_, fun z => ?_⟩
    · have hz : mtW V a e (cwW (wcI i)) := by rw [kd.2.1]; exact z
      have : w = wcI i := kb_c w w1 (wcI i) kd.1 (by have := w2.1; have := hz.1; omega) (fun j hj => by rw [← w2.2 j hj]; exact hz.2 j (by have := w2.1; have := hz.1; omega))
      rw [this]
    · have : w = wcI i := (nI_eq (by omega) (by omega)).mp z
      rw [this, kd.2.1] at w2; exact w2
  · refine ⟨fun i hi => ?_, Or.inl (by rw [h51, w2]), fun z => absurd h9 z⟩
    rw [mt i hi, h51, w2]
    have kd := kb_d i hi
    exact ⟨fun z => absurd (by rw [kd.2.1]; exact z) (w1 (wcI i) kd.1), fun z => absurd z.symm (m1_ne (by omega))⟩
def nF (B : Nat → Int32) (a : Nat) : Nat → Int32
  | 0 => 0
  | m + 1 => 10 * nF B a m + B (a + m) - 48
theorem nt_22 {B R : Nat → Int32} {a e : Nat} (he : R 4 = nI e) (h2 : e ≤ 900) : ∀ (t j : Nat), e - (a + j) < t → a + j ≤ e → f_Reader_numberOfToken_22 B R t (nF B a j) (nI (a + j)) = nF B a (e - a) := by
  intro t
  induction t with
  | zero => intro j h; omega
  | succ t ih =>
    intro j h hj
    rw [f_Reader_numberOfToken_22, he]
    by_cases q : nI e ≤ nI (a + j)
    · rw [if_pos q]
      rw [nI_leI (by omega) (by omega)] at q
      rw [show j = e - a by omega]
    · rw [if_neg q, nI_clamp (by omega), nI_1]
      rw [nI_leI (by omega) (by omega)] at q
      rw [Int32.mul_comm]
      exact ih (j + 1) (by omega) (by omega)
theorem nt_sp {B R : Nat → Int32} {a e : Nat} (ha : R 10 = nI a) (he : R 4 = nI e) (h1 : a ≤ e) (h2 : e ≤ 900) : f_Reader_numberOfToken B R = if e - a ≤ 4 then nF B a (e - a) else -1 := by
  unfold f_Reader_numberOfToken
  rw [ha, he, sub_nI h1]
  have : nI (e - a) ≤ 4 ↔ e - a ≤ 4 := nI_leI (b := 4) (by omega) (by decide)
  by_cases q : e - a ≤ 4
  · rw [if_pos (this.mpr q), if_pos q]
    exact nt_22 (j := 0) he h2 901 (by omega) (by omega)
  · rw [if_neg (fun z => q (this.mp z)), if_neg q]
theorem ud_up {R : Nat → Int32} {k : Nat} {v : Int32} (h : R k = v) : upd R k v = R := by rw [← h, ud_id]
theorem u2_up {V : Zf} {k i : Nat} {v : Int32} (h : V k i = v) : u2 V k i v = V := u2_id h
theorem sk_lp {B : Nat → Int32} {n : Nat} (hn : n ≤ 900) : ∀ (t p : Nat) (R : Nat → Int32) (V : Zf), R 3 = nI n → R 4 = nI p → V 100 48 = nI n → V 100 46 = nI p → p ≤ n → n - p < t → (∀ i, i < n → ByR (B i) (V 31 i)) → ∃ q, p ≤ q ∧ q ≤ n ∧ f_Reader_nextToken_8 B t R = upd R 4 (nI q) ∧ f_Mod_go_L t V = f_Mod_go_50 (u2 V 100 46 (nI q)) := by
  intro t
  induction t with
  | zero => intro p R V _ _ _ _ _ h; omega
  | succ t ih =>
    intro p R V r3 r4 v48 v46 hp ht hT
    rw [f_Reader_nextToken_8, f_Mod_go_L, r3, r4, pN_mk (by omega) v48, pN_mk (by omega) v46]
    by_cases q : n ≤ p
    · rw [if_pos (nI_le q (by omega)), if_pos q]
      exact ⟨p, by omega, hp, (ud_up r4).symm, by rw [u2_up v46]⟩
    · rw [if_neg (nI_ge (by omega) (by omega)), if_neg q, nI_clamp (by omega), nI_1, ba_in v48 hn (by omega)]
      have b := hT p (by omega)
      have go : ∃ q, p ≤ q ∧ q ≤ n ∧ f_Reader_nextToken_8 B t (upd R 4 (nI (p + 1))) = upd R 4 (nI q) ∧ f_Mod_go_L t (u2 V 100 46 (nI (p + 1))) = f_Mod_go_50 (u2 V 100 46 (nI q)) := by
        obtain ⟨q, q1, q2, q3, q4⟩ := ih (p + 1) (upd R 4 (nI (p + 1))) (u2 V 100 46 (nI (p + 1))) (by rw [ud_o (by decide)]; exact r3) ud_s (by rw [u2_i (by decide) rfl]; exact v48) u2_s (by omega) (by omega) (fun i hi => by rw [u2_k (by decide)]; exact hT i hi)
        exact ⟨q, by omega, q2, by rw [q3, ud_ud], by rw [q4, u2_u2]⟩
      have e32 := by_eq (c := 32) b (by decide)
      have e10 := by_eq (c := 10) b (by decide)
      by_cases z1 : B p = 32
      · rw [if_pos z1, if_pos (e32.mp z1)]; exact go
      · rw [if_neg z1, if_neg (fun z => z1 (e32.mpr z))]
        by_cases z2 : B p = 10
        · rw [if_pos z2, if_pos (e10.mp z2)]; exact go
        · rw [if_neg z2, if_neg (fun z => z2 (e10.mpr z))]
          exact ⟨p, by omega, hp, (ud_up r4).symm, by rw [u2_up v46]⟩
theorem wd_cg {a z : Nat} {V U : Zf} (e31 : U 31 = V 31) (e48 : U 100 48 = V 100 48) : f_Mod_wordFrom a z U = f_Mod_wordFrom a z V := by
  unfold f_Mod_wordFrom
  have key : ∀ t w k so i, f_Mod_wordFrom_11 a z t U w k so i = f_Mod_wordFrom_11 a z t V w k so i := by
    intro t
    induction t with
    | zero => intro w k so i; rfl
    | succ t ih =>
      intro w k so i
      rw [f_Mod_wordFrom_11, f_Mod_wordFrom_11, ba_of e31 e48]; simp only [ih]
  exact key _ _ _ _ _
theorem lt_lp {B : Nat → Int32} {n a : Nat} (hn : n ≤ 900) : ∀ (t p : Nat) (R : Nat → Int32) (V : Zf), R 3 = nI n → R 4 = nI p → V 100 48 = nI n → V 100 46 = nI p → V 100 47 = nI a → a < 2 ^ 31 → p ≤ n → n - p < t → (∀ i, i < n → ByR (B i) (V 31 i)) → ∃ q, p ≤ q ∧ q ≤ n ∧ f_Reader_takeRow_L B 97 122 t R = upd R 4 (nI q) ∧ (f_Mod_go_103 t V 100 46 = nI q ∧ f_Mod_go_103 t V 100 47 = nI a ∧ f_Mod_go_103 t V 100 49 = 1 ∧ f_Mod_go_103 t V 100 51 = f_Mod_wordFrom a q V) := by
  intro t
  induction t with
  | zero => intro p R V _ _ _ _ _ _ _ h; omega
  | succ t ih =>
    intro p R V r3 r4 v48 v46 v47 ha hp ht hT
    rw [f_Reader_takeRow_L, f_Mod_go_103, r3, r4, pN_mk (by omega) v46, pN_mk ha v47]
    have stop : u2 (u2 V 100 49 1) 100 51 (f_Mod_wordFrom a p (u2 V 100 49 1)) 100 46 = nI p ∧ u2 (u2 V 100 49 1) 100 51 (f_Mod_wordFrom a p (u2 V 100 49 1)) 100 47 = nI a ∧ u2 (u2 V 100 49 1) 100 51 (f_Mod_wordFrom a p (u2 V 100 49 1)) 100 49 = 1 ∧ u2 (u2 V 100 49 1) 100 51 (f_Mod_wordFrom a p (u2 V 100 49 1)) 100 51 = f_Mod_wordFrom a p V := by
      refine ⟨?_, ?_, ?_, ?_⟩
      · rw [u2_i (by decide) rfl, u2_i (by decide) rfl]; exact v46
      · rw [u2_i (by decide) rfl, u2_i (by decide) rfl]; exact v47
      · rw [u2_i (by decide) rfl, u2_s]
      · rw [u2_s, wd_cg (by rw [u2_k (by decide)]) (by rw [u2_i (by decide) rfl])]
    by_cases q : n ≤ p
    · rw [if_pos (nI_le q (by omega)), ba_0 (by rw [pN_mk (by omega) v48]; exact q), if_pos (by decide)]
      exact ⟨p, by omega, hp, (ud_up r4).symm, stop⟩
    · rw [if_neg (nI_ge (by omega) (by omega)), nI_clamp (by omega), nI_1, ba_in v48 hn (by omega)]
      have b := hT p (by omega)
      have e97 : (97 : Int32).toInt = 97 := by decide
      have e122 : (122 : Int32).toInt = 122 := by decide
      by_cases z1 : B p < 97
      · rw [if_pos z1]
        have : f_Mod_isLetter (V 31 p) = 0 := by
          unfold f_Mod_isLetter
          rcases b with ⟨-, -, b⟩ | ⟨-, b⟩
          · rw [b, if_pos z1]
          · rw [if_neg (fun w => by rw [i_lt] at w; omega), if_pos (by rw [i_lt]; omega)]
        rw [if_pos this]
        exact ⟨p, by omega, hp, (ud_up r4).symm, stop⟩
      · rw [if_neg z1]
        have bx : V 31 p = B p := by
          rcases b with ⟨-, -, b⟩ | ⟨b, -⟩
          · exact b
          · rw [i_lt] at z1; omega
        rw [bx]
        unfold f_Mod_isLetter
        rw [if_neg z1]
        by_cases z2 : 122 < B p
        · rw [if_pos z2, if_pos z2, if_pos rfl]
          exact ⟨p, by omega, hp, (ud_up r4).symm, stop⟩
        · rw [if_neg z2, if_neg z2, if_neg (show ¬ (1 : Int32) = 0 by decide)]
          obtain ⟨q, q1, q2, q3, q4, q5, q6, q7⟩ := ih (p + 1) (upd R 4 (nI (p + 1))) (u2 V 100 46 (nI (p + 1))) (by rw [ud_o (by decide)]; exact r3) ud_s (by rw [u2_i (by decide) rfl]; exact v48) u2_s (by rw [u2_i (by decide) rfl]; exact v47) ha (by omega) (by omega) (fun i hi => by rw [u2_k (by decide)]; exact hT i hi)
          exact ⟨q, by omega, q2, by rw [q3, ud_ud], q4, q5, q6, by rw [q7, wd_cg (by rw [u2_k (by decide)]) (by rw [u2_i (by decide) rfl])]⟩
def nv (B : Nat → Int32) (a q : Nat) : Int32 := if q - a ≤ 4 then nF B a (q - a) else 99999
theorem dg_lp {B : Nat → Int32} {n a : Nat} (hn : n ≤ 900) : ∀ (t p : Nat) (R : Nat → Int32) (V : Zf), R 3 = nI n → R 4 = nI p → V 100 48 = nI n → V 100 46 = nI p → V 100 47 = nI a → V 100 50 = nv B a p → a ≤ p → p ≤ n → n - p < t → (∀ i, i < n → ByR (B i) (V 31 i)) → ∃ q, p ≤ q ∧ q ≤ n ∧ f_Reader_takeRow_L B 48 57 t R = upd R 4 (nI q) ∧ (f_Mod_go_166 t V 100 46 = nI q ∧ f_Mod_go_166 t V 100 47 = nI a ∧ f_Mod_go_166 t V 100 49 = 2 ∧ f_Mod_go_166 t V 100 51 = V 100 51 ∧ f_Mod_go_166 t V 100 50 = nv B a q) := by
  intro t
  induction t with
  | zero => intro p R V _ _ _ _ _ _ _ _ h; omega
  | succ t ih =>
    intro p R V r3 r4 v48 v46 v47 v50 hap hp ht hT
    rw [f_Reader_takeRow_L, f_Mod_go_166, r3, r4, pN_mk (by omega) v46, v47, sub_nI hap]
    have stop : u2 V 100 49 2 100 46 = nI p ∧ u2 V 100 49 2 100 47 = nI a ∧ u2 V 100 49 2 100 49 = 2 ∧ u2 V 100 49 2 100 51 = V 100 51 ∧ u2 V 100 49 2 100 50 = nv B a p := by
      refine ⟨?_, ?_, u2_s, u2_i (by decide) rfl, ?_⟩
      · rw [u2_i (by decide) rfl]; exact v46
      · rw [u2_i (by decide) rfl]; exact v47
      · rw [u2_i (by decide) rfl]; exact v50
    by_cases q : n ≤ p
    · rw [if_pos (nI_le q (by omega)), ba_0 (by rw [pN_mk (by omega) v48]; exact q), if_pos (by decide)]
      exact ⟨p, by omega, hp, (ud_up r4).symm, stop⟩
    · rw [if_neg (nI_ge (by omega) (by omega)), nI_clamp (by omega), nI_1, ba_in v48 hn (by omega)]
      have b := hT p (by omega)
      have e48 : (48 : Int32).toInt = 48 := by decide
      have e57 : (57 : Int32).toInt = 57 := by decide
      by_cases z1 : B p < 48
      · rw [if_pos z1]
        by_cases y1 : V 31 p < 48
        · rw [if_pos y1]; exact ⟨p, by omega, hp, (ud_up r4).symm, stop⟩
        · rw [if_neg y1]
          have y2 : 57 < V 31 p := by
            rcases b with ⟨-, -, b⟩ | ⟨-, b⟩
            · rw [b] at y1; exact absurd z1 y1
            · rw [i_lt]; omega
          rw [if_pos y2]; exact ⟨p, by omega, hp, (ud_up r4).symm, stop⟩
      · rw [if_neg z1]
        have bx : V 31 p = B p := by
          rcases b with ⟨-, -, b⟩ | ⟨b, -⟩
          · exact b
          · rw [i_lt] at z1; omega
        rw [bx, if_neg z1]
        by_cases z2 : 57 < B p
        · rw [if_pos z2, if_pos z2]
          exact ⟨p, by omega, hp, (ud_up r4).symm, stop⟩
        · rw [if_neg z2, if_neg z2, v50]
          have go : ∀ x : Int32, x = nv B a (p + 1) → ∃ q, p ≤ q ∧ q ≤ n ∧ f_Reader_takeRow_L B 48 57 t (upd R 4 (nI (p + 1))) = upd R 4 (nI q) ∧ (f_Mod_go_166 t (u2 (u2 V 100 50 x) 100 46 (nI (p + 1))) 100 46 = nI q ∧ f_Mod_go_166 t (u2 (u2 V 100 50 x) 100 46 (nI (p + 1))) 100 47 = nI a ∧ f_Mod_go_166 t (u2 (u2 V 100 50 x) 100 46 (nI (p + 1))) 100 49 = 2 ∧ f_Mod_go_166 t (u2 (u2 V 100 50 x) 100 46 (nI (p + 1))) 100 51 = V 100 51 ∧ f_Mod_go_166 t (u2 (u2 V 100 50 x) 100 46 (nI (p + 1))) 100 50 = nv B a q) := by
            intro x hx
            obtain ⟨q, q1, q2, q3, q4, q5, q6, q7, q8⟩ := ih (p + 1) (upd R 4 (nI (p + 1))) (u2 (u2 V 100 50 x) 100 46 (nI (p + 1))) (by rw [ud_o (by decide)]; exact r3) ud_s (by rw [u2_i (by decide) rfl, u2_i (by decide) rfl]; exact v48) u2_s (by rw [u2_i (by decide) rfl, u2_i (by decide) rfl]; exact v47) (by rw [u2_i (by decide) rfl, u2_s]; exact hx) (by omega) (by omega) (by omega) (fun i hi => by rw [u2_k (by decide), u2_k (by decide)]; exact hT i hi)
            exact ⟨q, by omega, q2, by rw [q3, ud_ud], q4, q5, q6, by rw [q7, u2_i (by decide) rfl, u2_i (by decide) rfl], q8⟩
          have e4 : 4 ≤ nI (p - a) ↔ 4 ≤ p - a := nI_leI (a := 4) (by decide) (by omega)
          by_cases z3 : 4 ≤ p - a
          · rw [if_pos (e4.mpr z3)]
            refine go 99999 ?_
            unfold nv
            rw [if_neg (by omega)]
          · rw [if_neg (fun w => z3 (e4.mp w))]
            refine go _ ?_
            unfold nv
            rw [if_pos (by omega), if_pos (by omega), show p + 1 - a = (p - a) + 1 by omega]
            show _ = 10 * nF B a (p - a) + B (a + (p - a)) - 48
            rw [show a + (p - a) = p by omega]
