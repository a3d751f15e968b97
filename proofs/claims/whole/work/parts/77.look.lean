/-! the relation between object and reference, and the calls that only look -/
def StR (P : Zf) (c r : Nat → Int32) (b : Nat) : Prop := StG (pN P 0) (pN P 31 0) (pN P 30 0) (pN P 30 3) (P 4) (P 30 1) b c r
theorem StG.cg {K : Nat → Nat} {nl nd nb : Nat} {G : Nat → Int32} {o : Int32} {c c' r r' : Nat → Int32} {b b' : Nat} (h : StG K nl nd nb G o b c r) (hc : ∀ i, i < 225 → c' i = c i) (hr : ∀ i, i < 210 → r' (b' + i) = r (b + i)) : StG K nl nd nb G o b' c' r' := by
  obtain ⟨h1, h2, h3, h4, h5⟩ := h
  refine ⟨fun i hi => ?_, fun i hi => ?_, fun k h0 hk hk1 => ?_, ?_, ?_⟩
  · have p := ps_lt hi
    have d := hi.1
    rw [hc i (by omega), hr _ (by omega)]; exact h1 i hi
  · rw [hc i hi]; exact h2 i hi
  · rw [hc _ (by omega)]; exact h3 k h0 hk hk1
  · rw [hc _ (by omega)]; exact h4
  · rw [hc _ (by omega), hc _ (by omega)]; exact h5
/-- a memory of acts, by their order -/
def HsR (P Z W : Zf) (kh hb w0 w1 base : Nat) : Prop := Z kh 0 = W 100 w0 ∧ ∀ k, k < pN Z kh 0 → StR P (Z (hb + 2 * ((pN Z kh 1 + k) % 40))) (W 0) (base + 210 * ((pN W 100 w1 + k) % 40))
def NtR (Z W : Zf) (kn w o : Nat) : Prop := Z kn 0 = W 100 w ∧ ∀ k, k < pN Z kn 0 → Z (kn + 1) k = W 14 (o + k) ∧ Z (kn + 2) k = W 15 (o + k) ∧ Z (kn + 3) k = W 16 (o + k)
def RfR (Z W : Zf) (kr o : Nat) : Prop := ∀ k, k < 3 → Z kr k = W 17 (o + k)
/-- a byte on either tape -/
def ByR (x y : Int32) : Prop := (0 ≤ x.toInt ∧ x.toInt < 128 ∧ y = x) ∨ (x.toInt < 0 ∧ 128 ≤ y.toInt)
def TpR (Z W : Zf) : Prop := ∀ i, i < pN Z 507 1 → ByR (Z 506 i) (W 31 i)
def AcJ (W : Zf) : Prop := (W 100 27 = nI (pN W 100 27) ∧ pN W 100 27 ≤ 40) ∧ (W 100 28 = nI (pN W 100 28) ∧ pN W 100 28 < 40)
/-- a cycle as it is laid -/
def LYR (P W : Zf) : Prop := (P 32 0 = W 100 42 ∧ P 32 1 = W 100 43) ∧ (∀ k, k < pN P 30 3 → pN P 18 k = pN W 34 k ∧ P 20 k = W 35 k ∧ P 21 k = W 36 k ∧ P 19 k = f_Mod_takenAt k W) ∧ ∀ l, l < pN P 31 0 → P 22 l = W 37 l ∧ P 23 l = W 38 l ∧ (¬ pN P 14 l = 2 → P 23 l = -1)
/-- what a cycle is laid by -/
def PSt (P W : Zf) : Prop := pN P 30 3 = pN W 100 20 ∧ pN P 31 0 = pN W 100 21 ∧ (∀ k, k < pN P 30 3 → pN P 1 k = pN W 1 k ∧ P 2 k = W 2 k) ∧ ∀ l, l < pN P 31 0 → pN P 12 l = pN W 8 l ∧ pN P 13 l = pN W 9 l ∧ pN P 14 l = pN W 10 l
def LyP (P : Zf) : Prop := ∀ V : Zf, wfM V → PlM V → PSt P V → LYR P (f_Mod_laysCycle V)
def PX (P W : Zf) : Prop := (W 100 44 = -1 ∧ P 30 1 = W 100 22 ∧ P 30 2 = W 100 23 ∧ 0 ≤ (P 30 2).toInt) ∧ (∀ k, k < pN P 30 3 → P 2 k = W 2 k ∧ (pN P 0 k = 1 → P 4 k = W 4 k)) ∧ LYR P W ∧ LyP P
def YQ (Y : Zf) : Prop := isN Y 0 4 ∧ isN Y 1 5 ∧ isN Y 12 10 ∧ isN Y 13 10 ∧ isN Y 14 3 ∧ isM Y 10 12 ∧ isM Y 11 12 ∧ isN Y 18 10
def CcI (S : SA) (P Z : Zf) : Prop := NtI Z ∧ HiI Z 303 ∧ (Z 507 1 = nI (pN Z 507 1) ∧ pN Z 507 1 ≤ 900) ∧ 0 < pN P 30 0 ∧ HiL Z S ∧ (Z 507 7 = 0 ∨ Z 507 7 = 1) ∧ (¬ Z 507 7 = 0 → HiI Z 403 ∧ (∀ k, k < pN Z 403 0 → S 1 ((pN Z 403 1 + k) % 40) ≠ none) ∧ Z 410 0 = nI (pN Z 410 0) ∧ pN Z 410 0 < 7)
def LvR (P Z W : Zf) : Prop := StR P (Z 302) (W 0) 0 ∧ HsR P Z W 303 1000 24 25 630 ∧ NtR Z W 310 26 0 ∧ RfR Z W 305 0
def ImR (P Z W : Zf) : Prop := Z 507 7 = W 100 30 ∧ (¬ Z 507 7 = 0 → (StR P (Z 402) (W 0) 9030 ∧ HsR P Z W 403 1001 27 28 9240 ∧ NtR Z W 410 29 6 ∧ RfR Z W 405 3) ∧ (AcJ W ∧ ∀ k, k < pN Z 410 0 → (Z 411 k = nI (pN Z 411 k) ∧ pN Z 411 k < 10) ∧ Z 412 k = nI (pN Z 412 k) ∧ pN Z 412 k < 21))
def TtR (Z W : Zf) : Prop := Z 507 1 = W 100 32 ∧ Z 507 2 = W 100 33 ∧ TpR Z W
def RelW : RT := fun S P Y Z W => CcI S P Z ∧ RelM W ∧ (PK P W ∧ PX P W) ∧ LvR P Z W ∧ ImR P Z W ∧ TtR Z W ∧ YQ Y

/-- a step of the reference that leaves what counts as it was -/
def Wfr (W V : Zf) : Prop := (∀ k, k ≠ 0 → k ≠ 100 → k ≠ 73 → k ≠ 74 → V k = W k) ∧ (∀ i, i ≠ 18 → i ≠ 45 → i ≠ 75 → V 100 i = W 100 i) ∧ ∀ i, i < 210 ∨ 630 ≤ i → V 0 i = W 0 i
def Zfr (Z Q : Zf) : Prop := ∀ k, (k < 218 ∨ (232 < k ∧ k ≠ 501 ∧ k ≠ 503 ∧ k ≠ 504 ∧ k ≠ 505)) → Q k = Z k
theorem Wfr.rf {W : Zf} : Wfr W W := ⟨fun _ _ _ _ _ => rfl, fun _ _ _ _ => rfl, fun _ _ => rfl⟩
theorem Wfr.tr {W V U : Zf} (h : Wfr W V) (g : Wfr V U) : Wfr W U := ⟨fun k a b c d => (g.1 k a b c d).trans (h.1 k a b c d), fun i a b c => (g.2.1 i a b c).trans (h.2.1 i a b c), fun i hi => (g.2.2 i hi).trans (h.2.2 i hi)⟩
theorem Wfr.u1 {W V : Zf} {i : Nat} {v : Int32} (h : Wfr W V) (hi : i = 18 ∨ i = 45 ∨ i = 75) : Wfr W (u2 V 100 i v) :=
  ⟨fun k a b c d => by rw [u2_k b]; exact h.1 k a b c d, fun j a b c => by rw [u2_i (by omega) rfl]; exact h.2.1 j a b c, fun j hj => by rw [u2_k (by decide)]; exact h.2.2 j hj⟩
theorem Wfr.u7 {W V : Zf} {k i : Nat} {v : Int32} (h : Wfr W V) (hk : k = 73 ∨ k = 74) : Wfr W (u2 V k i v) :=
  ⟨fun j a b c d => by rw [u2_k (by omega)]; exact h.1 j a b c d, fun j a b c => by rw [u2_k (by omega)]; exact h.2.1 j a b c, fun j hj => by rw [u2_k (by omega)]; exact h.2.2 j hj⟩
theorem Wfr.up {W V : Zf} {f : Nat → Int32} (h : Wfr W V) (hf : ∀ i, i < 210 ∨ 630 ≤ i → f i = V 0 i) : Wfr W (va_up V 0 f) :=
  ⟨fun j a b c d => by rw [up_ne a rfl]; exact h.1 j a b c d, fun j a b c => by rw [up_ne (by decide) rfl]; exact h.2.1 j a b c, fun j hj => by rw [up_same, hf j hj]; exact h.2.2 j hj⟩
theorem Zfr.rf {Z : Zf} : Zfr Z Z := fun _ _ => rfl
theorem Zfr.tr {Z Q R : Zf} (h : Zfr Z Q) (g : Zfr Q R) : Zfr Z R := fun k hk => (g k hk).trans (h k hk)
theorem Zfr.up {Z Q : Zf} {k : Nat} {f : Nat → Int32} (h : Zfr Z Q) (hk : k = 501 ∨ k = 503 ∨ k = 504 ∨ k = 505) : Zfr Z (va_up Q k f) := fun j hj => by rw [up_ne (by omega) rfl]; exact h j hj
theorem Zfr.u2 {Z Q : Zf} {k i : Nat} {v : Int32} (h : Zfr Z Q) (hk : k = 501 ∨ k = 503 ∨ k = 504 ∨ k = 505) : Zfr Z (u2 Q k i v) := fun j hj => by rw [u2_k (by omega)]; exact h j hj
theorem Zfr.ct {Z Q : Zf} (h : Zfr Z Q) : Zfr Z (ct Q Z) := fun j hj => by
  show (if j < 1000 then Q j else Z j) = Z j
  split
  · exact h j hj
  · rfl
theorem StR.cg {P : Zf} {c c' r r' : Nat → Int32} {b b' : Nat} (h : StR P c r b) (hc : ∀ i, i < 225 → c' i = c i) (hr : ∀ i, i < 210 → r' (b' + i) = r (b + i)) : StR P c' r' b' := StG.cg h hc hr
theorem HsR.cg {P Z Z' W W' : Zf} {kh hb w0 w1 base : Nat} (h : HsR P Z W kh hb w0 w1 base) (hz : Z' kh = Z kh) (hk : ∀ p, p < 40 → Z' (hb + 2 * p) = Z (hb + 2 * p)) (hw0 : W' 100 w0 = W 100 w0) (hw1 : W' 100 w1 = W 100 w1) (hr : ∀ i, base ≤ i → i < base + 8400 → W' 0 i = W 0 i) : HsR P Z' W' kh hb w0 w1 base := by
  obtain ⟨h1, h2⟩ := h
  refine ⟨by rw [hz, hw0]; exact h1, fun k q => ?_⟩
  have e0 : pN Z' kh 0 = pN Z kh 0 := by unfold pN; rw [hz]
  have e1 : pN Z' kh 1 = pN Z kh 1 := by unfold pN; rw [hz]
  have e2 : pN W' 100 w1 = pN W 100 w1 := by unfold pN; rw [hw1]
  rw [e0] at q
  rw [e1, e2]
  have m1 := Nat.mod_lt (pN Z kh 1 + k) (show 0 < 40 by decide)
  have m2 := Nat.mod_lt (pN W 100 w1 + k) (show 0 < 40 by decide)
  refine (h2 k q).cg (fun i _ => by rw [hk _ m1]) (fun i hi => hr _ (by omega) (by omega))
theorem NtR.cg {Z Z' W W' : Zf} {kn w o : Nat} (h : NtR Z W kn w o) (h0 : Z' kn = Z kn) (h1 : Z' (kn + 1) = Z (kn + 1)) (h2 : Z' (kn + 2) = Z (kn + 2)) (h3 : Z' (kn + 3) = Z (kn + 3)) (hw : W' 100 w = W 100 w) (e4 : W' 14 = W 14) (e5 : W' 15 = W 15) (e6 : W' 16 = W 16) : NtR Z' W' kn w o := by
  unfold NtR pN at *
  rw [h0, h1, h2, h3, hw, e4, e5, e6]; exact h
theorem RfR.cg {Z Z' W W' : Zf} {kr o : Nat} (h : RfR Z W kr o) (h0 : Z' kr = Z kr) (e : W' 17 = W 17) : RfR Z' W' kr o := by
  unfold RfR at *
  rw [h0, e]; exact h

theorem RelM.cg {W V : Zf} (h : RelM W) (hk : ∀ k, k = 1 ∨ k = 2 ∨ k = 3 ∨ k = 4 ∨ k = 8 ∨ k = 9 ∨ k = 10 ∨ k = 11 ∨ k = 13 ∨ k = 14 ∨ k = 34 ∨ k = 53 ∨ k = 54 ∨ k = 55 ∨ k = 56 ∨ k = 60 ∨ k = 61 ∨ k = 62 → V k = W k) (hi : ∀ i, i = 19 ∨ i = 20 ∨ i = 21 ∨ i = 24 ∨ i = 25 ∨ i = 26 ∨ i = 32 ∨ i = 50 → V 100 i = W 100 i) (h0 : V 0 206 = W 0 206) : RelM V := by
  unfold RelM wfM AcI TkI hasT NtM PlM RwI VvI isN iNr pN at *
  rw [hk 1 (by omega), hk 2 (by omega), hk 3 (by omega), hk 4 (by omega), hk 8 (by omega), hk 9 (by omega), hk 10 (by omega), hk 11 (by omega), hk 13 (by omega), hk 14 (by omega), hk 34 (by omega), hk 53 (by omega), hk 54 (by omega), hk 55 (by omega), hk 56 (by omega), hk 60 (by omega), hk 61 (by omega), hk 62 (by omega), hi 19 (by omega), hi 20 (by omega), hi 21 (by omega), hi 24 (by omega), hi 25 (by omega), hi 26 (by omega), hi 32 (by omega), hi 50 (by omega), h0]
  exact h
theorem tk_cg {W V : Zf} {b : Nat} (h : V 34 = W 34) : f_Mod_takenAt b V = f_Mod_takenAt b W := by
  unfold f_Mod_takenAt
  have key : ∀ t k, f_Mod_takenAt_2 b t V k = f_Mod_takenAt_2 b t W k := by
    intro t
    induction t with
    | zero => intro k; rfl
    | succ t ih =>
      intro k
      rw [f_Mod_takenAt_2, f_Mod_takenAt_2, ih, show pN V 34 k = pN W 34 k by unfold pN; rw [h]]
  exact key _ _
theorem lt_cg {W V : Zf} {k w : Nat} (h : V 100 21 = W 100 21) (h9 : V 9 = W 9) (h10 : V 10 = W 10) : f_Mod_linkTo V k w = f_Mod_linkTo W k w := by
  unfold f_Mod_linkTo
  have key : ∀ t l, f_Mod_linkTo_2 V k w t l = f_Mod_linkTo_2 W k w t l := by
    intro t
    induction t with
    | zero => intro l; rfl
    | succ t ih =>
      intro l
      rw [f_Mod_linkTo_2, f_Mod_linkTo_2, ih, show pN V 9 l = pN W 9 l by unfold pN; rw [h9], show pN V 10 l = pN W 10 l by unfold pN; rw [h10], show pN V 100 21 = pN W 100 21 by unfold pN; rw [h]]
  exact key _ _
theorem sf_cg {W V : Zf} {k : Nat} (h : V 100 21 = W 100 21) (h8 : V 8 = W 8) (h10 : V 10 = W 10) : f_Mod_setFrom V k = f_Mod_setFrom W k := by
  unfold f_Mod_setFrom
  have key : ∀ t l, f_Mod_setFrom_2 V k t l = f_Mod_setFrom_2 W k t l := by
    intro t
    induction t with
    | zero => intro l; rfl
    | succ t ih =>
      intro l
      rw [f_Mod_setFrom_2, f_Mod_setFrom_2, ih, show pN V 8 l = pN W 8 l by unfold pN; rw [h8], show pN V 10 l = pN W 10 l by unfold pN; rw [h10], show pN V 100 21 = pN W 100 21 by unfold pN; rw [h]]
  exact key _ _
theorem PK.cg {P W V : Zf} (h : PK P W) (hk : ∀ k, (1 ≤ k ∧ k ≤ 13) ∨ k = 34 → V k = W k) (hi : ∀ i, i = 19 ∨ i = 20 ∨ i = 21 → V 100 i = W 100 i) : PK P V := by
  have hl : ∀ k w, f_Mod_linkTo V k w = f_Mod_linkTo W k w := fun k w => lt_cg (hi 21 (by omega)) (hk 9 (by omega)) (hk 10 (by omega))
  have hs : ∀ k, f_Mod_setFrom V k = f_Mod_setFrom W k := fun k => sf_cg (hi 21 (by omega)) (hk 8 (by omega)) (hk 10 (by omega))
  unfold PK wfM PlM at *
  simp only [hl, hs]
  unfold isN pN at *
  rw [hk 1 (by omega), hk 2 (by omega), hk 3 (by omega), hk 4 (by omega), hk 5 (by omega), hk 6 (by omega), hk 7 (by omega), hk 8 (by omega), hk 9 (by omega), hk 10 (by omega), hk 11 (by omega), hk 12 (by omega), hk 13 (by omega), hk 34 (by omega), hi 19 (by omega), hi 20 (by omega), hi 21 (by omega)]
  exact h
theorem LYR.cg {P W V : Zf} (h : LYR P W) (hk : ∀ k, 34 ≤ k ∧ k ≤ 38 → V k = W k) (hi : ∀ i, i = 42 ∨ i = 43 → V 100 i = W 100 i) : LYR P V := by
  have ht : ∀ b, f_Mod_takenAt b V = f_Mod_takenAt b W := fun b => tk_cg (hk 34 (by omega))
  unfold LYR pN at *
  simp only [ht]
  rw [hk 34 (by omega), hk 35 (by omega), hk 36 (by omega), hk 37 (by omega), hk 38 (by omega), hi 42 (by omega), hi 43 (by omega)]
  exact h
theorem PX.cg {P W V : Zf} (h : PX P W) (hk : ∀ k, (k = 2 ∨ k = 4) ∨ (34 ≤ k ∧ k ≤ 38) → V k = W k) (hi : ∀ i, (i = 22 ∨ i = 23) ∨ (i = 42 ∨ i = 43) ∨ i = 44 → V 100 i = W 100 i) : PX P V := by
  obtain ⟨h1, h2, h3, h4⟩ := h
  refine ⟨?_, ?_, h3.cg (fun k h => hk k (Or.inr h)) (fun i h => hi i (Or.inr (Or.inl h))), h4⟩
  · rw [hi 44 (by omega), hi 22 (by omega), hi 23 (by omega)]; exact h1
  · rw [hk 2 (by omega), hk 4 (by omega)]; exact h2
theorem RelW.fr {S : SA} {P Y Z W Q V : Zf} (h : RelW S P Y Z W) (hz : Zfr Z Q) (hw : Wfr W V) : RelW S P Y Q V := by
  obtain ⟨h1, h2, ⟨h3, h4⟩, ⟨a1, a2, a3, a4⟩, ⟨b1, b2⟩, ⟨c1, c2, c3⟩, h7⟩ := h
  have z := fun k hk => hz k hk
  obtain ⟨w1, w2, w3⟩ := hw
  refine ⟨?_, ?_, ⟨?_, ?_⟩, ⟨?_, ?_, ?_, ?_⟩, ⟨?_, ?_⟩, ⟨?_, ?_, ?_⟩, h7⟩
  · unfold CcI NtI HiI HiL pN at *
    rw [z 310 (by omega), z 311 (by omega), z 312 (by omega), z 303 (by omega), z 507 (by omega), z 403 (by omega), z 410 (by omega)]
    exact h1
  · exact h2.cg (fun k hk => w1 k (by omega) (by omega) (by omega) (by omega)) (fun i hi => w2 i (by omega) (by omega) (by omega)) (w3 _ (by omega))
  · exact h3.cg (fun k hk => w1 k (by omega) (by omega) (by omega) (by omega)) (fun i hi => w2 i (by omega) (by omega) (by omega))
  · exact h4.cg (fun k hk => w1 k (by omega) (by omega) (by omega) (by omega)) (fun i hi => w2 i (by omega) (by omega) (by omega))
  · exact a1.cg (fun i _ => by rw [z 302 (by omega)]) (fun i hi => w3 _ (by omega))
  · exact a2.cg (z _ (by omega)) (fun p hp => z _ (by omega)) (w2 _ (by omega) (by omega) (by omega)) (w2 _ (by omega) (by omega) (by omega)) (fun i h1 h2 => w3 _ (by omega))
  · exact a3.cg (z _ (by omega)) (z _ (by omega)) (z _ (by omega)) (z _ (by omega)) (w2 _ (by omega) (by omega) (by omega)) (w1 _ (by omega) (by omega) (by omega) (by omega)) (w1 _ (by omega) (by omega) (by omega) (by omega)) (w1 _ (by omega) (by omega) (by omega) (by omega))
  · exact a4.cg (z _ (by omega)) (w1 _ (by omega) (by omega) (by omega) (by omega))
  · rw [z 507 (by omega), w2 _ (by omega) (by omega) (by omega)]; exact b1
  · intro q
    rw [z 507 (by omega)] at q
    obtain ⟨⟨d1, d2, d3, d4⟩, d5, d6⟩ := b2 q
    refine ⟨⟨?_, ?_, ?_, ?_⟩, ?_, ?_⟩
    · exact d1.cg (fun i _ => by rw [z 402 (by omega)]) (fun i hi => w3 _ (by omega))
    · exact d2.cg (z _ (by omega)) (fun p hp => z _ (by omega)) (w2 _ (by omega) (by omega) (by omega)) (w2 _ (by omega) (by omega) (by omega)) (fun i h1 h2 => w3 _ (by omega))
    · exact d3.cg (z _ (by omega)) (z _ (by omega)) (z _ (by omega)) (z _ (by omega)) (w2 _ (by omega) (by omega) (by omega)) (w1 _ (by omega) (by omega) (by omega) (by omega)) (w1 _ (by omega) (by omega) (by omega) (by omega)) (w1 _ (by omega) (by omega) (by omega) (by omega))
    · exact d4.cg (z _ (by omega)) (w1 _ (by omega) (by omega) (by omega) (by omega))
    · unfold AcJ pN at *
      rw [w2 27 (by omega) (by omega) (by omega), w2 28 (by omega) (by omega) (by omega)]; exact d5
    · unfold pN at *
      rw [z 410 (by omega), z 411 (by omega), z 412 (by omega)]; exact d6
  · rw [z 507 (by omega), w2 _ (by omega) (by omega) (by omega)]; exact c1
  · rw [z 507 (by omega), w2 _ (by omega) (by omega) (by omega)]; exact c2
  · unfold TpR pN at *
    rw [z 506 (by omega), z 507 (by omega), w1 31 (by omega) (by omega) (by omega) (by omega)]; exact c3
theorem RelW.w {S : SA} {P Y Z W V : Zf} (h : RelW S P Y Z W) (hw : Wfr W V) : RelW S P Y Z V := h.fr Zfr.rf hw
/-- the live State while nothing is tried -/
theorem RelW.cx {S : SA} {P Y Z W : Zf} (h : RelW S P Y Z W) : CX P W 0 (W 0) (W 0 209) (Z 302 221) (Z 302) (W 0) := by
  obtain ⟨-, -, ⟨h3, h4⟩, ⟨⟨a1, a2, a3, a4, a5⟩, -⟩, -⟩ := h
  refine ⟨⟨a1, a2, fun k h0 hk hk1 => ?_, ?_, a5⟩, fun i _ => rfl, by rw [Nat.zero_add], rfl⟩
  · rw [a3 k h0 hk hk1, (h4.2.1 k hk).2 hk1]
    unfold f_Mod_gainOf
    rw [h4.1.1, if_neg (m1_ne (by have := h3.nb.2; omega))]
    exact (h3.wM.2.2.2.2.2.2.1 k).1
  · rw [a4]; exact h4.1.2.1
theorem cx_st {P W : Zf} {b : Nat} {r0 c r : Nat → Int32} {x y : Int32} (h : CX P W b r0 x y c r) (hp : PK P W) (hx : PX P W) : StR P c r b := by
  obtain ⟨⟨a1, a2, a3, a4, a5⟩, -⟩ := h
  refine ⟨a1, a2, fun k h0 hk hk1 => ?_, ?_, a5⟩
  · rw [a3 k h0 hk hk1, (hx.2.1 k hk).2 hk1]
    unfold f_Mod_gainOf
    rw [hx.1.1, if_neg (m1_ne (by have := hp.nb.2; omega))]
    exact (hp.wM.2.2.2.2.2.2.1 k).1.symm
  · rw [a4]; exact hx.1.2.1.symm
theorem rt_1 {x y : Int32} {W : Zf} (h0 : W 100 18 = 0) (hx : ¬ x = 0) : f_Mod_right x y W = (1, W) := by
  unfold f_Mod_right
  rw [if_pos h0, if_neg hx, if_pos h0]
theorem u2_u2 {W : Zf} {k i : Nat} {v w : Int32} : u2 (u2 W k i v) k i w = u2 W k i w := by
  unfold u2
  rw [up_same, up_up, ud_ud]
theorem rt_z {y : Int32} {W : Zf} (h0 : W 100 18 = 0) (hy : ¬ y = 0) : f_Mod_right 0 y W = (0, u2 W 100 18 y) := by
  unfold f_Mod_right
  rw [if_pos h0, if_pos rfl, if_neg (by rw [u2_s]; exact hy)]
theorem wi_ca {x : Int32} {n : Nat} (hn : n < 2 ^ 30) : (f_Mod_within x (nI 0) (nI n - 1) = 0 ∧ (x < 0 ∨ (¬ x < 0 ∧ nI n ≤ x))) ∨ (f_Mod_within x (nI 0) (nI n - 1) = 1 ∧ ∃ m, m < n ∧ x = nI m) := by
  have e0 := t_0
  have e1 := t_1
  have en : (nI n - 1).toInt = (n : Int) - 1 := by
    have := nI_toInt (n := n) (by omega)
    rw [ti_sub (by omega) (by omega)]; omega
  unfold f_Mod_within
  rw [nI_0]
  by_cases q : x < 0
  · rw [if_pos q]; exact Or.inl ⟨rfl, Or.inl q⟩
  · rw [if_neg q]
    by_cases q2 : nI n - 1 < x
    · rw [if_pos q2]
      rw [i_lt] at q2
      refine Or.inl ⟨rfl, Or.inr ⟨q, ?_⟩⟩
      rw [i_le, nI_toInt (by omega)]; omega
    · rw [if_neg q2]
      obtain ⟨j, hj, rfl⟩ := nI_of q
      rw [i_lt, nI_toInt hj] at q2
      exact Or.inr ⟨rfl, j, by omega, rfl⟩
theorem wj_of {x : Int32} {n : Nat} (hn : n < 2 ^ 30) : (f_Mod_within x (nI 0) (nI n) = 0 ∧ (x < 0 ∨ (¬ x < 0 ∧ nI n < x))) ∨ (f_Mod_within x (nI 0) (nI n) = 1 ∧ ∃ m, m ≤ n ∧ x = nI m) := by
  unfold f_Mod_within
  rw [nI_0]
  by_cases q : x < 0
  · rw [if_pos q]; exact Or.inl ⟨rfl, Or.inl q⟩
  · rw [if_neg q]
    by_cases q2 : nI n < x
    · rw [if_pos q2]; exact Or.inl ⟨rfl, Or.inr ⟨q, q2⟩⟩
    · rw [if_neg q2]
      obtain ⟨j, hj, rfl⟩ := nI_of q
      rw [nI_ltI (by omega) hj] at q2
      exact Or.inr ⟨rfl, j, by omega, rfl⟩
theorem out_ne {x : Int32} {n : Nat} (hn : n < 2 ^ 30) (h : x < 0 ∨ (¬ x < 0 ∧ nI n < x)) : ∀ j, j ≤ n → ¬ x = nI j := by
  intro j hj e
  subst e
  rcases h with h | ⟨-, h⟩
  · exact nI_pos (by omega) h
  · rw [nI_ltI (by omega) (by omega)] at h; omega
theorem ib_eq {P W : Zf} {x : Int32} (hp : PK P W) : (f_Bus_isBlock P x = 0 ∧ f_Mod_within x (nI 0) (nI (pN W 100 20) - 1) = 0) ∨ (f_Bus_isBlock P x = 1 ∧ f_Mod_within x (nI 0) (nI (pN W 100 20) - 1) = 1 ∧ ∃ m, m < pN P 30 3 ∧ x = nI m) := by
  have n2 := hp.nb
  unfold f_Bus_isBlock
  rw [n2.1]
  rcases wi_ca (x := x) (n := pN W 100 20) (by omega) with ⟨a, b⟩ | ⟨a, m, h1, rfl⟩
  · left
    refine ⟨?_, a⟩
    rcases b with b | ⟨b, b2⟩
    · rw [if_pos b]
    · rw [if_neg b, if_pos b2]
  · right
    refine ⟨?_, a, m, h1, rfl⟩
    rw [if_neg (nI_pos (by omega)), if_neg (nI_ge (by omega) (by omega))]
theorem id_eq2 {P W : Zf} {x : Int32} (hp : PK P W) : (f_Bus_isDevice P x = 0 ∧ f_Mod_within x (nI 0) (nI (pN W 100 19) - 1) = 0) ∨ (f_Bus_isDevice P x = 1 ∧ f_Mod_within x (nI 0) (nI (pN W 100 19) - 1) = 1 ∧ ∃ m, m < pN P 30 0 ∧ x = nI m) := by
  have n2 := hp.nd
  unfold f_Bus_isDevice
  rw [n2.1]
  rcases wi_ca (x := x) (n := pN W 100 19) (by omega) with ⟨a, b⟩ | ⟨a, m, h1, rfl⟩
  · left
    refine ⟨?_, a⟩
    rcases b with b | ⟨b, b2⟩
    · rw [if_pos b]
    · rw [if_neg b, if_pos b2]
  · right
    refine ⟨?_, a, m, h1, rfl⟩
    rw [if_neg (nI_pos (by omega)), if_neg (nI_ge (by omega) (by omega))]
theorem e_fault : E_fault RelW := by
  intro S P Y Z W h
  refine ⟨?_, h.w (Wfr.rf.u1 (by omega))⟩
  show Z 507 2 = u2 W 100 18 0 100 33
  rw [u2_i (by decide) rfl]; exact h.2.2.2.2.2.1.2.1

theorem RelW.u0 {S : SA} {P Y Z W : Zf} (h : RelW S P Y Z W) : RelW S P Y Z (u2 W 100 18 0) := h.w (Wfr.rf.u1 (by omega))
theorem sx_v {ci cn v : Int32} {G : Int32 × Zf} (h1 : G.2 100 18 = 0) (h2 : G.1 = v) : sameX ci cn (.inl v) G := Or.inl ⟨v, rfl, h1, h2⟩
theorem sx_n {ci cn : Int32} {G : Int32 × Zf} (hn : ¬ cn = 0) (h1 : G.2 100 18 = cn) : sameX ci cn (.inr "java/util/NoSuchElementException") G := Or.inr (Or.inr ⟨rfl, hn, h1⟩)
theorem sx_i {ci cn : Int32} {G : Int32 × Zf} (hn : ¬ ci = 0) (h1 : G.2 100 18 = ci) : sameX ci cn (.inr "java/lang/IllegalArgumentException") G := Or.inr (Or.inl ⟨rfl, hn, h1⟩)
theorem p_nI {W : Zf} {k i n : Nat} (h : isN W k n) : nI (pN W k i) = W k i := (h i).1.symm
theorem t_4 : (4 : Int32).toInt = 4 := by decide
theorem nI1 : nI 1 = 1 := by decide
theorem nI2 : nI 2 = 2 := by decide
theorem sx_n1 {ci a : Int32} {V : Zf} : sameX ci 1 (.inr "java/util/NoSuchElementException") (a, u2 V 100 18 (nI 1)) := Or.inr (Or.inr ⟨rfl, by decide, by show u2 V 100 18 (nI 1) 100 18 = 1; rw [u2_s, nI1]⟩)
theorem sx_i1 {cn a : Int32} {V : Zf} : sameX 1 cn (.inr "java/lang/IllegalArgumentException") (a, u2 V 100 18 (nI 1)) := Or.inr (Or.inl ⟨rfl, by decide, by show u2 V 100 18 (nI 1) 100 18 = 1; rw [u2_s, nI1]⟩)
theorem sx_i2 {cn a : Int32} {V : Zf} : sameX 2 cn (.inr "java/lang/IllegalArgumentException") (a, u2 V 100 18 (nI 2)) := Or.inr (Or.inl ⟨rfl, by decide, by show u2 V 100 18 (nI 2) 100 18 = 2; rw [u2_s, nI2]⟩)
theorem e_count : E_count RelW := by
  intro x S P Y Z W h
  have h0 := h.u0
  have hz : u2 W 100 18 0 100 18 = 0 := u2_s
  have hp := h0.2.2.1.1
  have hx := h0.2.2.1.2
  have hc := h0.cx
  have n1 := hp.nl.1
  have n2 := hp.nb.1
  have n3 := hp.nd.1
  show sameX 0 1 (f_Bus_count P x Z) (f_Mod_count x W) ∧ RelW S P Y Z (f_Mod_count x W).2
  unfold f_Mod_count
  generalize u2 W 100 18 0 = V at *
  have b220 : Z 302 220 = V 0 205 := by rw [hc.gs (i := 220) (j := 0 + 205) (by decide) (by decide) rfl]
  have b221 : Z 302 221 = V 0 206 := by rw [hc.gs (i := 221) (j := 0 + 206) (by decide) (by decide) rfl]
  have b222 : Z 302 222 = V 0 207 := by rw [hc.gs (i := 222) (j := 0 + 207) (by decide) (by decide) rfl]
  have b223 : Z 302 223 = V 0 208 := by rw [hc.gs (i := 223) (j := 0 + 208) (by decide) (by decide) rfl]
  have b219 : Z 302 219 = V 0 204 := by rw [hc.gs (i := 219) (j := 0 + 204) (by decide) (by decide) rfl]
  have bj := hc.1.2.2.2.2
  have rf := h0.2.2.2.1.2.2.2
  rcases wj_of (x := x) (n := 15) (by decide) with ⟨a, b⟩ | ⟨a, m, h1, rfl⟩
  · rw [a, rt_z hz (by decide), if_pos rfl]
    refine ⟨?_, h0.w (Wfr.rf.u1 (by omega))⟩
    have ne := out_ne (by decide) b
    unfold f_Bus_count
    rw [if_neg (ne 0 (by decide)), if_neg (ne 1 (by decide)), if_neg (ne 2 (by decide)), if_neg (ne 3 (by decide)), if_neg (ne 4 (by decide)), if_neg (ne 5 (by decide)), if_neg (ne 6 (by decide)), if_neg (ne 7 (by decide)), if_neg (ne 8 (by decide)), if_neg (ne 9 (by decide)), if_neg (ne 10 (by decide)), if_neg (ne 11 (by decide)), if_neg (ne 12 (by decide)), if_neg (ne 13 (by decide)), if_neg (ne 14 (by decide)), if_neg (ne 15 (by decide))]
    exact sx_n1
  · rw [a, rt_1 hz (by decide), if_neg (show ¬ (1 : Int32) = 0 by decide), nI_clamp (by omega)]
    unfold f_Bus_count f_Mod_count_22
    have cs : m = 0 ∨ m = 1 ∨ m = 2 ∨ m = 3 ∨ m = 4 ∨ m = 5 ∨ m = 6 ∨ m = 7 ∨ m = 8 ∨ m = 9 ∨ m = 10 ∨ m = 11 ∨ m = 12 ∨ m = 13 ∨ m = 14 ∨ m = 15 := by omega
    rcases cs with rfl | rfl | rfl | rfl | rfl | rfl | rfl | rfl | rfl | rfl | rfl | rfl | rfl | rfl | rfl | rfl
    · rw [if_pos rfl, if_pos rfl]
      exact ⟨sx_v hz (by rw [n3]), h0⟩
    · rw [if_neg (by decide), if_pos rfl, if_neg (by decide), if_pos rfl]
      exact ⟨sx_v hz (by rw [n2]), h0⟩
    · rw [if_neg (by decide), if_neg (by decide), if_pos rfl, if_neg (by decide), if_neg (by decide), if_pos rfl]
      exact ⟨sx_v hz (by rw [n1]), h0⟩
    · rw [if_neg (by decide), if_neg (by decide), if_neg (by decide), if_pos rfl, if_neg (by decide), if_neg (by decide), if_neg (by decide), if_pos rfl]
      exact ⟨sx_v hz (b223.symm), h0⟩
    · rw [if_neg (by decide), if_neg (by decide), if_neg (by decide), if_neg (by decide), if_pos rfl, if_neg (by decide), if_neg (by decide), if_neg (by decide), if_neg (by decide), if_pos rfl]
      exact ⟨sx_v hz (b221.symm), h0⟩
    · rw [if_neg (by decide), if_neg (by decide), if_neg (by decide), if_neg (by decide), if_neg (by decide), if_pos rfl, if_neg (by decide), if_neg (by decide), if_neg (by decide), if_neg (by decide), if_neg (by decide), if_pos rfl]
      by_cases q : V 0 206 = -1
      · rw [if_pos q]; exact ⟨sx_v hz b222.symm, h0⟩
      · rw [if_neg q]
        refine ⟨sx_v hz ?_, h0⟩
        rcases bj with z | z
        · rw [b221] at z; exact absurd z q
        · exact z.symm
    · rw [if_neg (by decide), if_neg (by decide), if_neg (by decide), if_neg (by decide), if_neg (by decide), if_neg (by decide), if_pos rfl, if_neg (by decide), if_neg (by decide), if_neg (by decide), if_neg (by decide), if_neg (by decide), if_neg (by decide), if_pos rfl]
      exact ⟨sx_v hz (b220.symm), h0⟩
    · rw [if_neg (by decide), if_neg (by decide), if_neg (by decide), if_neg (by decide), if_neg (by decide), if_neg (by decide), if_neg (by decide), if_pos rfl, if_neg (by decide), if_neg (by decide), if_neg (by decide), if_neg (by decide), if_neg (by decide), if_neg (by decide), if_neg (by decide), if_pos rfl]
      exact ⟨sx_v hz (hx.2.2.1.1.1.symm), h0⟩
    · rw [if_neg (by decide), if_neg (by decide), if_neg (by decide), if_neg (by decide), if_neg (by decide), if_neg (by decide), if_neg (by decide), if_neg (by decide), if_pos rfl, if_neg (by decide), if_neg (by decide), if_neg (by decide), if_neg (by decide), if_neg (by decide), if_neg (by decide), if_neg (by decide), if_neg (by decide), if_pos rfl]
      exact ⟨sx_v hz (hx.2.2.1.1.2.symm), h0⟩
    · rw [if_neg (by decide), if_neg (by decide), if_neg (by decide), if_neg (by decide), if_neg (by decide), if_neg (by decide), if_neg (by decide), if_neg (by decide), if_neg (by decide), if_pos rfl, if_neg (by decide), if_neg (by decide), if_neg (by decide), if_neg (by decide), if_neg (by decide), if_neg (by decide), if_neg (by decide), if_neg (by decide), if_neg (by decide), if_pos rfl]
      exact ⟨sx_v hz (b219.symm), h0⟩
    · rw [if_neg (by decide), if_neg (by decide), if_neg (by decide), if_neg (by decide), if_neg (by decide), if_neg (by decide), if_neg (by decide), if_neg (by decide), if_neg (by decide), if_neg (by decide), if_pos rfl, if_neg (by decide), if_neg (by decide), if_neg (by decide), if_neg (by decide), if_neg (by decide), if_neg (by decide), if_neg (by decide), if_neg (by decide), if_neg (by decide), if_neg (by decide), if_pos rfl]
      exact ⟨sx_v hz (h0.2.2.2.1.2.1.1.symm), h0⟩
    · rw [if_neg (by decide), if_neg (by decide), if_neg (by decide), if_neg (by decide), if_neg (by decide), if_neg (by decide), if_neg (by decide), if_neg (by decide), if_neg (by decide), if_neg (by decide), if_neg (by decide), if_pos rfl, if_neg (by decide), if_neg (by decide), if_neg (by decide), if_neg (by decide), if_neg (by decide), if_neg (by decide), if_neg (by decide), if_neg (by decide), if_neg (by decide), if_neg (by decide), if_neg (by decide), if_pos rfl]
      exact ⟨sx_v hz (h0.2.2.2.1.2.2.1.1.symm), h0⟩
    · rw [if_neg (by decide), if_neg (by decide), if_neg (by decide), if_neg (by decide), if_neg (by decide), if_neg (by decide), if_neg (by decide), if_neg (by decide), if_neg (by decide), if_neg (by decide), if_neg (by decide), if_neg (by decide), if_pos rfl, if_neg (by decide), if_neg (by decide), if_neg (by decide), if_neg (by decide), if_neg (by decide), if_neg (by decide), if_neg (by decide), if_neg (by decide), if_neg (by decide), if_neg (by decide), if_neg (by decide), if_neg (by decide), if_pos rfl]
      exact ⟨sx_v hz (h0.2.2.2.2.2.1.1.symm), h0⟩
    · rw [if_neg (by decide), if_neg (by decide), if_neg (by decide), if_neg (by decide), if_neg (by decide), if_neg (by decide), if_neg (by decide), if_neg (by decide), if_neg (by decide), if_neg (by decide), if_neg (by decide), if_neg (by decide), if_neg (by decide), if_pos rfl, if_neg (by decide), if_neg (by decide), if_neg (by decide), if_neg (by decide), if_neg (by decide), if_neg (by decide), if_neg (by decide), if_neg (by decide), if_neg (by decide), if_neg (by decide), if_neg (by decide), if_neg (by decide), if_neg (by decide)]
      exact ⟨sx_v hz ((rf 0 (by decide)).symm), h0⟩
    · rw [if_neg (by decide), if_neg (by decide), if_neg (by decide), if_neg (by decide), if_neg (by decide), if_neg (by decide), if_neg (by decide), if_neg (by decide), if_neg (by decide), if_neg (by decide), if_neg (by decide), if_neg (by decide), if_neg (by decide), if_neg (by decide), if_pos rfl, if_neg (by decide), if_neg (by decide), if_neg (by decide), if_neg (by decide), if_neg (by decide), if_neg (by decide), if_neg (by decide), if_neg (by decide), if_neg (by decide), if_neg (by decide), if_neg (by decide), if_neg (by decide), if_neg (by decide)]
      exact ⟨sx_v hz ((rf 1 (by decide)).symm), h0⟩
    · rw [if_neg (by decide), if_neg (by decide), if_neg (by decide), if_neg (by decide), if_neg (by decide), if_neg (by decide), if_neg (by decide), if_neg (by decide), if_neg (by decide), if_neg (by decide), if_neg (by decide), if_neg (by decide), if_neg (by decide), if_neg (by decide), if_neg (by decide), if_pos rfl, if_neg (by decide), if_neg (by decide), if_neg (by decide), if_neg (by decide), if_neg (by decide), if_neg (by decide), if_neg (by decide), if_neg (by decide), if_neg (by decide), if_neg (by decide), if_neg (by decide), if_neg (by decide), if_neg (by decide)]
      exact ⟨sx_v hz ((rf 2 (by decide)).symm), h0⟩
theorem e_block : E_block RelW := by
  intro x y S P Y Z W h
  have h0 := h.u0
  have hz : u2 W 100 18 0 100 18 = 0 := u2_s
  have hp := h0.2.2.1.1
  have hx := h0.2.2.1.2
  have hc := h0.cx
  have n2 := hp.nb
  show sameX 0 1 (f_Bus_block P x y Z) (f_Mod_block x y W) ∧ RelW S P Y Z (f_Mod_block x y W).2
  unfold f_Mod_block f_Mod_isBlock
  generalize u2 W 100 18 0 = V at *
  unfold f_Bus_block
  rcases ib_eq (x := x) hp with ⟨a1, a2⟩ | ⟨a1, a2, m, hm, rfl⟩
  · rw [a1, a2, rt_z hz (by decide), if_neg (fun z => z rfl)]
    simp only [if_true]
    exact ⟨sx_n1, h0.w (Wfr.rf.u1 (by omega))⟩
  · rw [a1, a2, rt_1 hz (by decide), if_pos (by decide), nI_clamp (by omega)]
    simp only [if_neg (show ¬ (1 : Int32) = 0 by decide)]
    have hm10 : m < 10 := by omega
    have e1 := p_nI (i := m) hp.wM.1
    have e2 := p_nI (i := m) hp.wM.2.1
    have l1 := p_nI (i := m) hp.wP.1.1
    have l2 := p_nI (i := m) hp.wP.1.2.1
    have ly := hx.2.2.1.2.1 m hm
    have g : ∀ j, j < 8 → Z 302 (m * 9 + j) = V 0 (0 + 8 * m + (j + 5) - 5) := fun j hj => by rw [hc.gb hm10 hj, show 0 + 8 * m + (j + 5) - 5 = 0 + 8 * m + j by omega]
    rcases wj_of (x := y) (n := 13) (by decide) with ⟨a, b⟩ | ⟨a, u, h1, rfl⟩
    · rw [a, rt_z hz (by decide)]
      simp only [if_true]
      refine ⟨?_, h0.w (Wfr.rf.u1 (by omega))⟩
      have ne := out_ne (by decide) b
      unfold f_Bus_block_5
      rw [if_neg (ne 0 (by decide)), if_neg (ne 1 (by decide)), if_neg (ne 2 (by decide)), if_neg (ne 3 (by decide)), if_neg (ne 4 (by decide)), if_neg (ne 5 (by decide)), if_neg (ne 6 (by decide)), if_neg (ne 7 (by decide)), if_neg (ne 8 (by decide)), if_neg (ne 9 (by decide)), if_neg (ne 10 (by decide)), if_neg (ne 11 (by decide)), if_neg (ne 12 (by decide)), if_neg (ne 13 (by decide))]
      exact sx_n1
    · rw [a, rt_1 hz (by decide), nI_clamp (by omega)]
      simp only [if_neg (show ¬ (1 : Int32) = 0 by decide)]
      unfold f_Bus_block_5 f_Mod_block_30 f_Mod_block_141
      have cs : u = 0 ∨ u = 1 ∨ u = 2 ∨ u = 3 ∨ u = 4 ∨ u = 5 ∨ u = 6 ∨ u = 7 ∨ u = 8 ∨ u = 9 ∨ u = 10 ∨ u = 11 ∨ u = 12 ∨ u = 13 := by omega
      rcases cs with rfl | rfl | rfl | rfl | rfl | rfl | rfl | rfl | rfl | rfl | rfl | rfl | rfl | rfl
      · rw [if_pos rfl, if_pos rfl]
        exact ⟨sx_v hz (by rw [← hp.kd hm, l1]), h0⟩
      · rw [if_neg (by decide), if_pos rfl, if_neg (by decide), if_pos rfl]
        exact ⟨sx_v hz (by rw [← hp.dv hm, l2]), h0⟩
      · rw [if_neg (by decide), if_neg (by decide), if_pos rfl, if_neg (by decide), if_neg (by decide), if_pos rfl]
        exact ⟨sx_v hz ((hx.2.1 m hm).1.symm), h0⟩
      · rw [if_neg (by decide), if_neg (by decide), if_neg (by decide), if_pos rfl, if_neg (by decide), if_neg (by decide), if_neg (by decide), if_pos rfl]
        exact ⟨sx_v hz (ly.2.1.symm), h0⟩
      · rw [if_neg (by decide), if_neg (by decide), if_neg (by decide), if_neg (by decide), if_pos rfl, if_neg (by decide), if_neg (by decide), if_neg (by decide), if_neg (by decide), if_pos rfl]
        exact ⟨sx_v hz (ly.2.2.1.symm), h0⟩
      · rw [if_neg (by decide), if_neg (by decide), if_neg (by decide), if_neg (by decide), if_neg (by decide), if_pos rfl, if_neg (by decide), if_neg (by decide), if_neg (by decide), if_neg (by decide), if_neg (by decide), if_pos rfl]
        exact ⟨sx_v hz ((g 0 (by decide)).symm), h0⟩
      · rw [if_neg (by decide), if_neg (by decide), if_neg (by decide), if_neg (by decide), if_neg (by decide), if_neg (by decide), if_pos rfl, if_neg (by decide), if_neg (by decide), if_neg (by decide), if_neg (by decide), if_neg (by decide), if_neg (by decide), if_pos rfl]
        exact ⟨sx_v hz ((g 1 (by decide)).symm), h0⟩
      · rw [if_neg (by decide), if_neg (by decide), if_neg (by decide), if_neg (by decide), if_neg (by decide), if_neg (by decide), if_neg (by decide), if_pos rfl, if_neg (by decide), if_neg (by decide), if_neg (by decide), if_neg (by decide), if_neg (by decide), if_neg (by decide), if_neg (by decide), if_pos rfl]
        exact ⟨sx_v hz ((g 2 (by decide)).symm), h0⟩
      · rw [if_neg (by decide), if_neg (by decide), if_neg (by decide), if_neg (by decide), if_neg (by decide), if_neg (by decide), if_neg (by decide), if_neg (by decide), if_pos rfl, if_neg (by decide), if_neg (by decide), if_neg (by decide), if_neg (by decide), if_neg (by decide), if_neg (by decide), if_neg (by decide), if_neg (by decide), if_pos rfl]
        exact ⟨sx_v hz ((g 3 (by decide)).symm), h0⟩
      · rw [if_neg (by decide), if_neg (by decide), if_neg (by decide), if_neg (by decide), if_neg (by decide), if_neg (by decide), if_neg (by decide), if_neg (by decide), if_neg (by decide), if_pos rfl, if_neg (by decide), if_neg (by decide), if_neg (by decide), if_neg (by decide), if_neg (by decide), if_neg (by decide), if_neg (by decide), if_neg (by decide), if_neg (by decide), if_pos rfl]
        exact ⟨sx_v hz ((g 4 (by decide)).symm), h0⟩
      · rw [if_neg (by decide), if_neg (by decide), if_neg (by decide), if_neg (by decide), if_neg (by decide), if_neg (by decide), if_neg (by decide), if_neg (by decide), if_neg (by decide), if_neg (by decide), if_pos rfl, if_neg (by decide), if_neg (by decide), if_neg (by decide), if_neg (by decide), if_neg (by decide), if_neg (by decide), if_neg (by decide), if_neg (by decide), if_neg (by decide), if_neg (by decide), if_pos rfl]
        exact ⟨sx_v hz ((g 5 (by decide)).symm), h0⟩
      · rw [if_neg (by decide), if_neg (by decide), if_neg (by decide), if_neg (by decide), if_neg (by decide), if_neg (by decide), if_neg (by decide), if_neg (by decide), if_neg (by decide), if_neg (by decide), if_neg (by decide), if_pos rfl, if_neg (by decide), if_neg (by decide), if_neg (by decide), if_neg (by decide), if_neg (by decide), if_neg (by decide), if_neg (by decide), if_neg (by decide), if_neg (by decide), if_neg (by decide), if_neg (by decide), if_pos rfl]
        exact ⟨sx_v hz ((g 6 (by decide)).symm), h0⟩
      · rw [if_neg (by decide), if_neg (by decide), if_neg (by decide), if_neg (by decide), if_neg (by decide), if_neg (by decide), if_neg (by decide), if_neg (by decide), if_neg (by decide), if_neg (by decide), if_neg (by decide), if_neg (by decide), if_pos rfl, if_neg (by decide), if_neg (by decide), if_neg (by decide), if_neg (by decide), if_neg (by decide), if_neg (by decide), if_neg (by decide), if_neg (by decide), if_neg (by decide), if_neg (by decide), if_neg (by decide), if_neg (by decide), if_pos rfl]
        exact ⟨sx_v hz ((g 7 (by decide)).symm), h0⟩
      · rw [if_neg (by decide), if_neg (by decide), if_neg (by decide), if_neg (by decide), if_neg (by decide), if_neg (by decide), if_neg (by decide), if_neg (by decide), if_neg (by decide), if_neg (by decide), if_neg (by decide), if_neg (by decide), if_neg (by decide), if_pos rfl, if_neg (by decide), if_neg (by decide), if_neg (by decide), if_neg (by decide), if_neg (by decide), if_neg (by decide), if_neg (by decide), if_neg (by decide), if_neg (by decide), if_neg (by decide), if_neg (by decide), if_neg (by decide), if_neg (by decide), if_pos rfl]
        exact ⟨sx_v hz (ly.2.2.2.symm), h0⟩
theorem e_link : E_link RelW := by
  intro x y S P Y Z W h
  have h0 := h.u0
  have hz : u2 W 100 18 0 100 18 = 0 := u2_s
  have hp := h0.2.2.1.1
  have hx := h0.2.2.1.2
  have hc := h0.cx
  have n1 := hp.nl
  show sameX 0 1 (f_Bus_link P x y Z) (f_Mod_link x y W) ∧ RelW S P Y Z (f_Mod_link x y W).2
  unfold f_Mod_link
  have ew : pN W 100 21 = pN (u2 W 100 18 0) 100 21 := by unfold pN; rw [u2_i (by decide) rfl]
  rw [ew]
  generalize u2 W 100 18 0 = V at *
  unfold f_Bus_link
  rw [n1.1]
  rcases wi_ca (x := x) (n := pN V 100 21) (by omega) with ⟨a, b⟩ | ⟨a, m, hm, rfl⟩
  · rw [if_pos a, nI_0, rt_z hz (by decide)]
    have : (if x < 0 then (.inr "java/util/NoSuchElementException" : Int32 ⊕ String) else if x < nI (pN V 100 21) then f_Bus_link_26 P x y Z x.toNatClampNeg else .inr "java/util/NoSuchElementException") = .inr "java/util/NoSuchElementException" := by
      rcases b with b | ⟨b, b2⟩
      · rw [if_pos b]
      · rw [if_neg b, if_neg (fun z => by rw [i_lt] at z; rw [i_le] at b2; omega)]
    rw [this]
    exact ⟨sx_n1, h0.w (Wfr.rf.u1 (by omega))⟩
  · rw [if_neg (nI_pos (by omega)), if_pos (nI_lt hm (by omega)), if_neg (show ¬ f_Mod_within (nI m) (nI 0) (nI (pN V 100 21) - 1) = 0 by rw [a]; decide), nI_clamp (by omega)]
    have hml : m < pN P 31 0 := by omega
    have n12 : m < 12 := by omega
    have lk := hp.lk hml
    have e1 := p_nI (i := m) hp.wM.2.2.1
    have e2 := p_nI (i := m) hp.wM.2.2.2.1
    have e3 := p_nI (i := m) hp.wM.2.2.2.2.1
    have l1 := p_nI (i := m) hp.wP.1.2.2.1
    have l2 := p_nI (i := m) hp.wP.1.2.2.2.1
    have l3 := p_nI (i := m) hp.wP.1.2.2.2.2.1
    have ly := hx.2.2.1.2.2 m hml
    have e14 : P 14 m = 2 ↔ pN V 10 m = 2 := by
      rw [← lk.1.2.2, ← l3]
      have b3 := (hp.wP.1.2.2.2.2.1 m).2
      exact nI_eq (by omega) (by decide)
    have gl : ∀ j, j < 5 → Z 302 (90 + m * 5 + (j + 4) - 4) = V 0 (0 + 80 + 10 * m + j) := fun j hj => by rw [← hc.gl hml n1.2 hj]; rfl
    have gk : ∀ j, j < 5 → Z 302 (155 + m * 5 + (j + 10) - 10) = V 0 (0 + 80 + 10 * m + (j + 5)) := fun j hj => by rw [← hc.gk hml n1.2 hj]; rfl
    rcases wj_of (x := y) (n := 14) (by decide) with ⟨a, b⟩ | ⟨a, u, h1, rfl⟩
    · rw [if_pos a, nI_0, rt_z hz (by decide)]
      refine ⟨?_, h0.w (Wfr.rf.u1 (by omega))⟩
      have ne := out_ne (by decide) b
      unfold f_Bus_link_26
      rw [if_neg (ne 0 (by decide)), if_neg (ne 1 (by decide)), if_neg (ne 2 (by decide)), if_neg (ne 3 (by decide)), if_neg (ne 4 (by decide)), if_neg (ne 5 (by decide)), if_neg (ne 6 (by decide)), if_neg (ne 7 (by decide)), if_neg (ne 8 (by decide)), if_neg (ne 9 (by decide)), if_neg (ne 10 (by decide)), if_neg (ne 11 (by decide)), if_neg (ne 12 (by decide)), if_neg (ne 13 (by decide)), if_neg (ne 14 (by decide))]
      exact sx_n1
    · rw [if_neg (show ¬ f_Mod_within (nI u) (nI 0) (nI 14) = 0 by rw [a]; decide), rt_1 hz (by decide), nI_clamp (by omega)]
      simp only [if_neg (show ¬ (1 : Int32) = 0 by decide)]
      unfold f_Bus_link_26 f_Mod_link_44 f_Mod_link_151
      have cs : u = 0 ∨ u = 1 ∨ u = 2 ∨ u = 3 ∨ u = 4 ∨ u = 5 ∨ u = 6 ∨ u = 7 ∨ u = 8 ∨ u = 9 ∨ u = 10 ∨ u = 11 ∨ u = 12 ∨ u = 13 ∨ u = 14 := by omega
      rcases cs with rfl | rfl | rfl | rfl | rfl | rfl | rfl | rfl | rfl | rfl | rfl | rfl | rfl | rfl | rfl
      · rw [if_pos rfl, if_pos (by decide), if_pos rfl]
        exact ⟨sx_v hz (by rw [← lk.1.1, l1]), h0⟩
      · rw [if_neg (by decide), if_pos rfl, if_pos (by decide), if_neg (by decide), if_pos rfl]
        exact ⟨sx_v hz (by rw [← lk.1.2.1, l2]), h0⟩
      · rw [if_neg (by decide), if_neg (by decide), if_pos rfl, if_pos (by decide), if_neg (by decide), if_neg (by decide), if_pos rfl]
        exact ⟨sx_v hz (by rw [← lk.1.2.2, l3]), h0⟩
      · rw [if_neg (by decide), if_neg (by decide), if_neg (by decide), if_pos rfl, if_pos (by decide), if_neg (by decide), if_neg (by decide), if_neg (by decide), if_pos rfl]
        exact ⟨sx_v hz (ly.1.symm), h0⟩
      · rw [if_neg (by decide), if_neg (by decide), if_neg (by decide), if_neg (by decide), if_pos rfl, if_pos (by decide), if_neg (by decide), if_neg (by decide), if_neg (by decide), if_neg (by decide), if_pos rfl, if_neg (by decide)]
        exact ⟨sx_v hz (gl 0 (by decide)).symm, h0⟩
      · rw [if_neg (by decide), if_neg (by decide), if_neg (by decide), if_neg (by decide), if_neg (by decide), if_pos rfl, if_pos (by decide), if_neg (by decide), if_neg (by decide), if_neg (by decide), if_neg (by decide), if_neg (by decide), if_pos rfl, if_neg (by decide)]
        exact ⟨sx_v hz (gl 1 (by decide)).symm, h0⟩
      · rw [if_neg (by decide), if_neg (by decide), if_neg (by decide), if_neg (by decide), if_neg (by decide), if_neg (by decide), if_pos rfl, if_pos (by decide), if_neg (by decide), if_neg (by decide), if_neg (by decide), if_neg (by decide), if_neg (by decide), if_neg (by decide), if_pos rfl, if_neg (by decide)]
        exact ⟨sx_v hz (gl 2 (by decide)).symm, h0⟩
      · rw [if_neg (by decide), if_neg (by decide), if_neg (by decide), if_neg (by decide), if_neg (by decide), if_neg (by decide), if_neg (by decide), if_pos rfl, if_pos (by decide), if_neg (by decide), if_neg (by decide), if_neg (by decide), if_neg (by decide), if_neg (by decide), if_neg (by decide), if_neg (by decide), if_pos rfl, if_neg (by decide)]
        exact ⟨sx_v hz (gl 3 (by decide)).symm, h0⟩
      · rw [if_neg (by decide), if_neg (by decide), if_neg (by decide), if_neg (by decide), if_neg (by decide), if_neg (by decide), if_neg (by decide), if_neg (by decide), if_pos rfl, if_pos (by decide), if_neg (by decide), if_neg (by decide), if_neg (by decide), if_neg (by decide), if_neg (by decide), if_neg (by decide), if_neg (by decide), if_neg (by decide), if_pos rfl, if_neg (by decide)]
        exact ⟨sx_v hz (gl 4 (by decide)).symm, h0⟩
      · rw [if_neg (by decide), if_neg (by decide), if_neg (by decide), if_neg (by decide), if_neg (by decide), if_neg (by decide), if_neg (by decide), if_neg (by decide), if_neg (by decide), if_pos rfl, if_neg (by decide)]
        by_cases q : pN V 10 m = 2
        · rw [if_pos q, if_neg (by decide), if_neg (by decide), if_neg (by decide), if_neg (by decide), if_neg (by decide), if_neg (by decide), if_neg (by decide), if_neg (by decide), if_neg (by decide), if_pos rfl]
          exact ⟨sx_v hz ly.2.1.symm, h0⟩
        · rw [if_neg q]
          exact ⟨sx_v hz (ly.2.2 (by rw [lk.1.2.2]; exact q)).symm, h0⟩
      · rw [if_neg (by decide), if_neg (by decide), if_neg (by decide), if_neg (by decide), if_neg (by decide), if_neg (by decide), if_neg (by decide), if_neg (by decide), if_neg (by decide), if_neg (by decide), if_pos rfl, if_neg (show ¬ (10 : Nat) ≤ 8 by decide)]
        by_cases q : pN V 10 m = 2
        · rw [if_pos q, if_pos (e14.mpr q), if_neg (by decide), if_neg (by decide), if_neg (by decide), if_neg (by decide), if_neg (by decide), if_neg (by decide), if_neg (by decide), if_neg (by decide), if_neg (by decide), if_neg (by decide), if_pos (by decide)]
          exact ⟨sx_v hz (gk 0 (by decide)).symm, h0⟩
        · rw [if_neg q, if_neg (fun z => q (e14.mp z))]
          exact ⟨sx_v hz rfl, h0⟩
      · rw [if_neg (by decide), if_neg (by decide), if_neg (by decide), if_neg (by decide), if_neg (by decide), if_neg (by decide), if_neg (by decide), if_neg (by decide), if_neg (by decide), if_neg (by decide), if_neg (by decide), if_pos rfl, if_neg (show ¬ (11 : Nat) ≤ 8 by decide)]
        by_cases q : pN V 10 m = 2
        · rw [if_pos q, if_pos (e14.mpr q), if_neg (by decide), if_neg (by decide), if_neg (by decide), if_neg (by decide), if_neg (by decide), if_neg (by decide), if_neg (by decide), if_neg (by decide), if_neg (by decide), if_neg (by decide), if_pos (by decide)]
          exact ⟨sx_v hz (gk 1 (by decide)).symm, h0⟩
        · rw [if_neg q, if_neg (fun z => q (e14.mp z))]
          exact ⟨sx_v hz rfl, h0⟩
      · rw [if_neg (by decide), if_neg (by decide), if_neg (by decide), if_neg (by decide), if_neg (by decide), if_neg (by decide), if_neg (by decide), if_neg (by decide), if_neg (by decide), if_neg (by decide), if_neg (by decide), if_neg (by decide), if_pos rfl, if_neg (show ¬ (12 : Nat) ≤ 8 by decide)]
        by_cases q : pN V 10 m = 2
        · rw [if_pos q, if_pos (e14.mpr q), if_neg (by decide), if_neg (by decide), if_neg (by decide), if_neg (by decide), if_neg (by decide), if_neg (by decide), if_neg (by decide), if_neg (by decide), if_neg (by decide), if_neg (by decide), if_pos (by decide)]
          exact ⟨sx_v hz (gk 2 (by decide)).symm, h0⟩
        · rw [if_neg q, if_neg (fun z => q (e14.mp z))]
          exact ⟨sx_v hz rfl, h0⟩
      · rw [if_neg (by decide), if_neg (by decide), if_neg (by decide), if_neg (by decide), if_neg (by decide), if_neg (by decide), if_neg (by decide), if_neg (by decide), if_neg (by decide), if_neg (by decide), if_neg (by decide), if_neg (by decide), if_neg (by decide), if_pos rfl, if_neg (show ¬ (13 : Nat) ≤ 8 by decide)]
        by_cases q : pN V 10 m = 2
        · rw [if_pos q, if_pos (e14.mpr q), if_neg (by decide), if_neg (by decide), if_neg (by decide), if_neg (by decide), if_neg (by decide), if_neg (by decide), if_neg (by decide), if_neg (by decide), if_neg (by decide), if_neg (by decide), if_pos (by decide)]
          exact ⟨sx_v hz (gk 3 (by decide)).symm, h0⟩
        · rw [if_neg q, if_neg (fun z => q (e14.mp z))]
          exact ⟨sx_v hz rfl, h0⟩
      · rw [if_neg (by decide), if_neg (by decide), if_neg (by decide), if_neg (by decide), if_neg (by decide), if_neg (by decide), if_neg (by decide), if_neg (by decide), if_neg (by decide), if_neg (by decide), if_neg (by decide), if_neg (by decide), if_neg (by decide), if_neg (by decide), if_pos rfl, if_neg (show ¬ (14 : Nat) ≤ 8 by decide)]
        by_cases q : pN V 10 m = 2
        · rw [if_pos q, if_pos (e14.mpr q), if_neg (by decide), if_neg (by decide), if_neg (by decide), if_neg (by decide), if_neg (by decide), if_neg (by decide), if_neg (by decide), if_neg (by decide), if_neg (by decide), if_neg (by decide), if_pos (by decide)]
          exact ⟨sx_v hz (gk 4 (by decide)).symm, h0⟩
        · rw [if_neg q, if_neg (fun z => q (e14.mp z))]
          exact ⟨sx_v hz rfl, h0⟩
theorem e_plant : E_plant RelW := by
  intro x y S P Y Z W h
  have h0 := h.u0
  have hz : u2 W 100 18 0 100 18 = 0 := u2_s
  have hp := h0.2.2.1.1
  have hc := h0.cx
  show sameX 0 1 (f_Bus_plant P x y Z) (f_Mod_plant x y W) ∧ RelW S P Y Z (f_Mod_plant x y W).2
  unfold f_Mod_plant
  generalize u2 W 100 18 0 = V at *
  unfold f_Bus_plant
  rcases wj_of (x := x) (n := 3) (by decide) with ⟨a, b⟩ | ⟨a, m, hm, rfl⟩
  · rw [if_pos a, nI_0, rt_z hz (by decide)]
    have : (if x < 0 then (.inr "java/util/NoSuchElementException" : Int32 ⊕ String) else if x < 4 then f_Bus_plant_17 P x y Z x.toNatClampNeg else .inr "java/util/NoSuchElementException") = .inr "java/util/NoSuchElementException" := by
      rcases b with b | ⟨b, b2⟩
      · rw [if_pos b]
      · rw [if_neg b, if_neg (fun z => by rw [i_lt] at z b2; rw [nI_toInt (by decide)] at b2; rw [t_4] at z; omega)]
    rw [this]
    exact ⟨sx_n1, h0.w (Wfr.rf.u1 (by omega))⟩
  · rw [if_neg (nI_pos (by omega)), if_pos (show nI m < 4 from nI_lt (b := 4) (by omega) (by decide)), if_neg (show ¬ f_Mod_within (nI m) (nI 0) (nI 3) = 0 by rw [a]; decide), nI_clamp (by omega)]
    rcases wj_of (x := y) (n := 2) (by decide) with ⟨a, b⟩ | ⟨a, u, h1, rfl⟩
    · rw [if_pos a, nI_0, rt_z hz (by decide)]
      refine ⟨?_, h0.w (Wfr.rf.u1 (by omega))⟩
      have ne := out_ne (by decide) b
      unfold f_Bus_plant_17
      rw [if_neg (ne 0 (by decide)), if_neg (ne 1 (by decide)), if_neg (ne 2 (by decide))]
      exact sx_n1
    · rw [if_neg (show ¬ f_Mod_within (nI u) (nI 0) (nI 2) = 0 by rw [a]; decide), rt_1 hz (by decide)]
      simp only [if_neg (show ¬ (1 : Int32) = 0 by decide)]
      unfold f_Bus_plant_17 f_Mod_plant_38
      have cs : u = 0 ∨ u = 1 ∨ u = 2 := by omega
      rcases cs with rfl | rfl | rfl
      · rw [if_pos rfl, if_pos (by decide)]
        exact ⟨sx_v hz (hc.gs (i := 215 + m) (j := 200 + m) (by omega) (by omega) (by omega)).symm, h0⟩
      · rw [if_neg (by decide), if_pos rfl, if_neg (by decide), if_pos (by decide)]
        exact ⟨sx_v hz (hp.2.2.2.2.2.2 m (by omega)).1.symm, h0⟩
      · rw [if_neg (by decide), if_neg (by decide), if_pos rfl, if_neg (by decide), if_neg (by decide)]
        exact ⟨sx_v hz (cx_out hc hp _).symm, h0⟩
