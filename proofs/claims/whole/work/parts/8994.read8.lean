/-! a link is added -/
def vlZ (n a b w : Nat) (V : Zf) : Zf := u2 (u2 (u2 (u2 V 60 n (nI a)) 61 n (nI b)) 62 n (nI w)) 100 68 (nI (n + 1))
theorem vlk {n a b w : Nat} {V : Zf} {k : Nat} (h : k ≠ 60 ∧ k ≠ 61 ∧ k ≠ 62 ∧ k ≠ 100) : vlZ n a b w V k = V k := by
  unfold vlZ
  rw [u2_k (by omega), u2_k (by omega), u2_k (by omega), u2_k (by omega)]
theorem vli {n a b w : Nat} {V : Zf} {i : Nat} (h : i ≠ 68) : vlZ n a b w V 100 i = V 100 i := by
  unfold vlZ
  rw [u2_i h rfl, u2_k (by omega), u2_k (by omega), u2_k (by omega)]
theorem vl60 {n a b w : Nat} {V : Zf} : vlZ n a b w V 60 = upd (V 60) n (nI a) := by
  unfold vlZ
  rw [u2_k (by decide), u2_k (by decide), u2_k (by decide), u2_e]
theorem vl61 {n a b w : Nat} {V : Zf} : vlZ n a b w V 61 = upd (V 61) n (nI b) := by
  unfold vlZ
  rw [u2_k (by decide), u2_k (by decide), u2_e, u2_k (by decide)]
theorem vl62 {n a b w : Nat} {V : Zf} : vlZ n a b w V 62 = upd (V 62) n (nI w) := by
  unfold vlZ
  rw [u2_k (by decide), u2_e, u2_k (by decide), u2_k (by decide)]
theorem vl68 {n a b w : Nat} {V : Zf} : vlZ n a b w V 100 68 = nI (n + 1) := by unfold vlZ; rw [u2_s]
theorem pl_al {n a b w c : Nat} {Z V : Zf} (h : PlR c Z V) (h8 : V 100 68 = nI n) (hn : n < 12) (h10 : pN V 100 67 ≤ 10) (ha : a < pN V 100 67) (hb : b < pN V 100 67) (hw : w < 3) (hf : ∀ l, l < n → ¬ (pN V 61 l = b ∧ pN V 62 l = w) ∧ (w = 2 → ¬ (pN V 60 l = a ∧ pN V 62 l = 2))) (hs : w = 2 → V 55 b = 1 ∨ V 55 b = 2) : PlR c (alZ n a b w Z) (vlZ n a b w V) := by
  obtain ⟨⟨p1, p2, p3, p4, p5, p6⟩, q1, q2, q3⟩ := h
  have e8 : pN V 100 68 = n := pN_mk (by omega) h8
  have e8' : pN (vlZ n a b w V) 100 68 = n + 1 := pN_mk (by omega) vl68
  have e7' : pN (vlZ n a b w V) 100 67 = pN V 100 67 := by unfold pN; rw [vli (by decide)]
  have z31 : Z 31 0 = nI n := by rw [p1.2]; exact h8
  rw [e8] at p3 p6
  have s60 : pN (vlZ n a b w V) 60 n = a := by unfold pN; rw [vl60, ud_s, nI_clamp (by omega)]
  have s61 : pN (vlZ n a b w V) 61 n = b := by unfold pN; rw [vl61, ud_s, nI_clamp (by omega)]
  have s62 : pN (vlZ n a b w V) 62 n = w := by unfold pN; rw [vl62, ud_s, nI_clamp (by omega)]
  have o60 : ∀ l, l < n → pN (vlZ n a b w V) 60 l = pN V 60 l := fun l hl => by unfold pN; rw [vl60, ud_o (by omega)]
  have o61 : ∀ l, l < n → pN (vlZ n a b w V) 61 l = pN V 61 l := fun l hl => by unfold pN; rw [vl61, ud_o (by omega)]
  have o62 : ∀ l, l < n → pN (vlZ n a b w V) 62 l = pN V 62 l := fun l hl => by unfold pN; rw [vl62, ud_o (by omega)]
  refine ⟨⟨⟨?_, ?_⟩, fun k hk => ?_, fun l hl => ?_, ⟨fun k x hk hx => ?_, fun k hk => ?_⟩, fun l m hl hm => ?_, fun l hl => ?_⟩, q1.fr (fun k _ _ => alk (by omega)) (fun k _ _ => vlk (by omega)), q2.fr (by rw [alk (by omega)]) (by rw [alk (by omega)]) (by rw [alk (by omega)]) (vli (by decide)) (vli (by decide)) (vli (by decide)), q3.fr (by rw [alk (by omega)]) (by rw [alk (by omega)]) (by rw [alk (by omega)]) (vli (by decide)) (vli (by decide))⟩
  · rw [alk (by omega), vli (by decide)]; exact p1.1
  · rw [al31, vl68]
  · rw [e7'] at hk
    have g := p2 k hk
    have v : ∀ m, m ≠ 60 → m ≠ 61 → m ≠ 62 → m ≠ 100 → vlZ n a b w V m = V m := fun m _ _ _ _ => vlk (by omega)
    have z : ∀ m, m < 10 → alZ n a b w Z m = Z m := fun m _ => alk (by omega)
    unfold BkR at *
    rw [z 0 (by decide), z 1 (by decide), z 2 (by decide), z 3 (by decide), z 4 (by decide), z 5 (by decide), z 6 (by decide), z 7 (by decide), z 8 (by decide), z 9 (by decide), v 53 (by decide) (by decide) (by decide) (by decide), v 54 (by decide) (by decide) (by decide) (by decide), v 55 (by decide) (by decide) (by decide) (by decide), v 56 (by decide) (by decide) (by decide) (by decide), v 57 (by decide) (by decide) (by decide) (by decide), v 58 (by decide) (by decide) (by decide) (by decide), v 59 (by decide) (by decide) (by decide) (by decide)]
    exact g
  · rw [e8'] at hl
    rw [al12, al13, al14, vl60, vl61, vl62]
    by_cases d : l = n
    · subst d; rw [ud_s, ud_s, ud_s, ud_s, ud_s, ud_s]; exact ⟨rfl, rfl, rfl⟩
    · rw [ud_o d, ud_o d, ud_o d, ud_o d, ud_o d, ud_o d]; exact p3 l (by omega)
  · rw [e7'] at hk
    have g := p4.1 k x hk hx
    unfold LkP at g ⊢
    rw [e8] at g
    rw [e8', al10]
    by_cases d : k * 3 + x = b * 3 + w
    · have dk : k = b := by omega
      have dx : x = w := by omega
      subst dk; subst dx
      rw [ud_s]
      exact Or.inr ⟨n, by omega, z31, s61, s62⟩
    · rw [ud_o d]
      rcases g with ⟨g1, g2⟩ | ⟨l, g1, g2, g3, g4⟩
      · refine Or.inl ⟨g1, fun l hl y => ?_⟩
        by_cases e : l = n
        · subst e; rw [s61, s62] at y; omega
        · rw [o61 l (by omega), o62 l (by omega)] at y
          exact g2 l (by omega) y
      · exact Or.inr ⟨l, by omega, g2, by rw [o61 l g1]; exact g3, by rw [o62 l g1]; exact g4⟩
  · rw [e7'] at hk
    have g := p4.2 k hk
    unfold SfP at g ⊢
    rw [e8] at g
    rw [e8', al11]
    by_cases d : w = 2 ∧ k = a
    · obtain ⟨d1, d2⟩ := d
      subst d1; subst d2
      rw [if_pos rfl, ud_s]
      exact Or.inr ⟨n, by omega, z31, s60, s62⟩
    · have e11 : (if w = 2 then upd (Z 11) a (Z 31 0) else Z 11) k = Z 11 k := by
        by_cases q : w = 2
        · rw [if_pos q, ud_o (by omega)]
        · rw [if_neg q]
      rw [e11]
      rcases g with ⟨g1, g2⟩ | ⟨l, g1, g2, g3, g4⟩
      · refine Or.inl ⟨g1, fun l hl y => ?_⟩
        by_cases e : l = n
        · subst e; rw [s60, s62] at y; omega
        · rw [o60 l (by omega), o62 l (by omega)] at y
          exact g2 l (by omega) y
      · exact Or.inr ⟨l, by omega, g2, by rw [o60 l g1]; exact g3, by rw [o62 l g1]; exact g4⟩
  · rw [e8'] at hl hm
    have u := fun l m (hl : l < n) (hm : m < n) => p5 l m (by rw [e8]; exact hl) (by rw [e8]; exact hm)
    by_cases d : l = n
    · by_cases e : m = n
      · exact ⟨fun _ _ => by omega, fun _ _ _ => by omega⟩
      · subst d
        have f := hf m (by omega)
        rw [s60, s61, s62, o60 m (by omega), o61 m (by omega), o62 m (by omega)]
        exact ⟨fun y1 y2 => absurd ⟨y1.symm, y2.symm⟩ f.1, fun y1 y2 y3 => absurd ⟨y1.symm, y3⟩ (f.2 y2)⟩
    · by_cases e : m = n
      · subst e
        have f := hf l (by omega)
        rw [s60, s61, s62, o60 l (by omega), o61 l (by omega), o62 l (by omega)]
        exact ⟨fun y1 y2 => absurd ⟨y1, y2⟩ f.1, fun y1 y2 y3 => absurd ⟨y1, y2⟩ (f.2 y3)⟩
      · rw [o60 l (by omega), o61 l (by omega), o62 l (by omega), o60 m (by omega), o61 m (by omega), o62 m (by omega)]
        exact u l m (by omega) (by omega)
  · rw [e8'] at hl
    rw [e7', vlk (show 55 ≠ 60 ∧ 55 ≠ 61 ∧ 55 ≠ 62 ∧ 55 ≠ 100 by decide)]
    by_cases d : l = n
    · subst d
      rw [s60, s61, s62]
      exact ⟨⟨ha, hb⟩, hs⟩
    · rw [o60 l (by omega), o61 l (by omega), o62 l (by omega)]
      exact p6 l (by omega)
/-- the object's way on from a fault -/
theorem lb_rb {B : Nat → Int32} {Z : Zf} (h : ¬ Z 40 1 = 0) : (f_Reader_readBlockNumber B Z).2 = Z := by
  unfold f_Reader_readBlockNumber f_Reader_readBlockNumber_8
  rw [up_b h, up_f h]
  split <;> rfl
theorem lb_20 {B : Nat → Int32} {Z : Zf} (h : ¬ Z 40 1 = 0) : f_Reader_readLink_20 B Z = Z := by
  unfold f_Reader_readLink_20
  rw [lb_rb h, lb_rb h, up_x h, if_neg h]
theorem l_96 {B : Nat → Int32} {n a b w c : Nat} {Z V : Zf} (hy : YQ Z) (h : Kc B (Z 40) V) (hp : PlR c Z V) (hR : RwI V) (h8 : V 100 68 = nI n) (hn : n < 12) (h10 : pN V 100 67 ≤ 10) (ha : a < pN V 100 67) (hb : b < pN V 100 67) (hw : w < 3) : CR B c (f_Reader_readLink_96 B Z a b w) (f_Mod_link1_100 V a b (nI w)) := by
  have h0 := h.1.2
  have z31 : pN Z 31 0 = n := pN_mk (by omega) (by rw [hp.1.1.2]; exact h8)
  obtain ⟨s1, s2⟩ := su_sp (hp.1.2.1 a ha).1.1 (hp.1.2.1 b hb).1.1 hw
  have h60 : isN V 60 10 := fun i => hR.2.1 i
  have h61 : isN V 61 10 := fun i => hR.2.2.1 i
  have h62 : isN V 62 3 := fun i => hR.2.2.2 i
  have fr := if_sp (f := a) (b := b) (n := n) (w := w) (by omega) h8 (by omega) (by omega) hw h60 h61 h62
  have hl := hl_sp hp.1 h8 (by omega) ha hb hw
  have ld := ld_eq (a := a) (b := b) (by omega) (by omega) (by omega) hy.2.2.1 hy.2.2.2.1 h60 h61 h8 (fun l hl => by have := hp.1.2.2.1 l (by rw [pN_mk (by omega) h8]; exact hl); exact ⟨this.1, this.2.1⟩)
  unfold f_Reader_readLink_96 f_Mod_link1_100
  rw [← s1, z31]
  by_cases q : f_Plan_suits Z a b w = 0
  · obtain ⟨f1, f2⟩ := h.fl (e := 3) (by decide)
    rw [if_pos q, q, show nI 3 = 3 by decide, f1, if_pos rfl]
    exact BadK (V := V) hy f2
  · rw [if_neg q]
    have w3 : f_Mod_wants (f_Plan_suits Z a b w) (nI 3) V = (1, V) := wt_y h0 q
    rw [w3, if_neg z1z]
    show CR B c _ (if (f_Mod_wants (f_Mod_isFree a b (nI w) V) (nI 5) V).1 = 0 then (f_Mod_wants (f_Mod_isFree a b (nI w) V) (nI 5) V).2 else f_Mod_link1_140 (f_Mod_wants (f_Mod_isFree a b (nI w) V) (nI 5) V).2 a b (nI w))
    obtain ⟨f1, f2⟩ := h.fl (e := 5) (by decide)
    have bad : f_Mod_isFree a b (nI w) V = 0 → CR B c (va_up Z 40 (f_Reader_fail 5 (Z 40))) (if (f_Mod_wants (f_Mod_isFree a b (nI w) V) (nI 5) V).1 = 0 then (f_Mod_wants (f_Mod_isFree a b (nI w) V) (nI 5) V).2 else f_Mod_link1_140 (f_Mod_wants (f_Mod_isFree a b (nI w) V) (nI 5) V).2 a b (nI w)) := fun z => by
      rw [z, show nI 5 = 5 by decide, f1, if_pos rfl]
      exact BadK (V := V) hy f2
    by_cases g : f_Plan_hasLinked Z a b w = 0
    · rw [if_pos g]
      by_cases k : f_Links_leads n Z (nI b) (nI a) = 0
      · rw [if_pos k]
        have fre : ¬ f_Mod_isFree a b (nI w) V = 0 := fr.mpr ⟨hl.mp g, ld.mp k⟩
        have w5 : f_Mod_wants (f_Mod_isFree a b (nI w) V) (nI 5) V = (1, V) := wt_y h0 fre
        rw [w5, if_neg z1z, al_eq]
        show CR B c _ (f_Mod_link1_140 V a b (nI w))
        unfold f_Mod_link1_140
        rw [pN_mk (by omega) h8]
        obtain ⟨g1, g2⟩ := h.go
        have hp1 := hp.kg (Q := Z 40) g2 (fun _ _ _ _ => rfl)
        rw [up_self rfl] at hp1
        have k60 : s_Mod_go V 60 = V 60 := g2.k (by decide)
        have k61 : s_Mod_go V 61 = V 61 := g2.k (by decide)
        have k62 : s_Mod_go V 62 = V 62 := g2.k (by decide)
        have k55 : s_Mod_go V 55 = V 55 := g2.k (by decide)
        have k67 : pN (s_Mod_go V) 100 67 = pN V 100 67 := by unfold pN; rw [g2.i (by omega)]
        refine ⟨hy.al (by rw [hp.1.1.2]; exact h8) hn (by omega) (by omega) hw, Or.inl ⟨?_, ?_⟩⟩
        · rw [alk (by omega)]
          exact (((g1.k (by omega)).k (by omega)).k (by omega)).i (by omega)
        · refine pl_al hp1 (by rw [g2.i (by omega)]; exact h8) hn (by rw [k67]; exact h10) (by rw [k67]; exact ha) (by rw [k67]; exact hb) hw (fun l hh => ?_) (fun e => by rw [k55]; exact s2 q e)
          have := hl.mp g l hh
          unfold pN at *
          rw [k60, k61, k62]; exact this
      · rw [if_neg k]
        exact bad (Classical.byContradiction fun z => k (ld.mpr (fr.mp z).2))
    · rw [if_neg g]
      exact bad (Classical.byContradiction fun z => g (hl.mpr (fr.mp z).1))
theorem l_42 {B : Nat → Int32} {n a b c : Nat} {Z V : Zf} (hy : YQ Z) (h : Kt B (Z 40) V) (hp : PlR c Z V) (hR : RwI V) (h8 : V 100 68 = nI n) (hn : n < 12) (h10 : pN V 100 67 ≤ 10) (ha : a < pN V 100 67) (hb : b < pN V 100 67) : CR B c (f_Reader_readLink_42 B (va_up Z 40 (f_Reader_nextToken B (Z 40))) a b) (f_Mod_link1_49 V a b) := by
  have hc := h.nx
  have h0 := hc.1.2
  have hp1 := hp.kg (Q := f_Reader_nextToken B (Z 40)) KG.rf h.2.2.2.2
  have hy1 : YQ (va_up Z 40 (f_Reader_nextToken B (Z 40))) := hy.r
  have hk : Kc B (va_up Z 40 (f_Reader_nextToken B (Z 40)) 40) V := by rw [up_same]; exact hc
  generalize va_up Z 40 (f_Reader_nextToken B (Z 40)) = Z1 at hp1 hy1 hk ⊢
  have w1 : ∀ y, f_Mod_wants (nI 1) y V = (1, V) := fun y => wt_y h0 n1z
  obtain ⟨f1, f2⟩ := hk.fl (e := 1) (by decide)
  unfold f_Reader_readLink_42 f_Mod_link1_49
  rw [if_pos h0, w1, if_neg z1z, n0, nI1, f1]
  rcases hk.wd with ⟨a1, w, a2, a3, a4⟩ | ⟨a1, a2⟩
  · rw [if_pos a1, a3, wi_c (by omega) (by omega) (by omega)]
    have i13 := a4 13 (by omega)
    have i14 := a4 14 (by omega)
    have i15 := a4 15 (by omega)
    rw [show wcI 13 = 16 by decide] at i13
    rw [show wcI 14 = 17 by decide] at i14
    rw [show wcI 15 = 18 by decide] at i15
    have no : ∀ i m, (¬ f_Reader_isWord B (Z1 40) i = 0 ↔ w = m) → ¬ w = m → f_Reader_isWord B (Z1 40) i = 0 := fun i m hh z => Classical.byContradiction fun y => z (hh.mp y)
    by_cases q : 16 ≤ w ∧ w ≤ 18
    · rw [if_pos q, if_neg z1z]
      show CR B c _ (f_Mod_link1_92 V a b)
      unfold f_Mod_link1_92
      rw [a3, show (16 : Int32) = nI 16 by decide, sub_nI q.1]
      have hw : w = 16 ∨ w = 17 ∨ w = 18 := by omega
      rcases hw with rfl | rfl | rfl
      · rw [if_neg (i13.mpr rfl)]; exact l_96 hy1 hk hp1 hR h8 hn h10 ha hb (by omega)
      · rw [if_pos (no 13 16 i13 (by omega)), if_neg (i14.mpr rfl)]; exact l_96 hy1 hk hp1 hR h8 hn h10 ha hb (by omega)
      · rw [if_pos (no 13 16 i13 (by omega)), if_pos (no 14 17 i14 (by omega)), if_neg (i15.mpr rfl)]; exact l_96 hy1 hk hp1 hR h8 hn h10 ha hb (by omega)
    · rw [if_neg q, if_pos rfl, if_pos (no 13 16 i13 (by omega)), if_pos (no 14 17 i14 (by omega)), if_pos (no 15 18 i15 (by omega))]
      exact BadK (V := V) hy1 f2
  · rw [if_pos (a2 13 (by omega)), if_pos (a2 14 (by omega)), if_pos (a2 15 (by omega))]
    have e : (if V 100 49 = 1 then if f_Mod_within (V 100 51) (nI 16) (nI 18) = 0 then u2 (u2 V 100 52 1) 100 33 (V 100 47) else f_Mod_link1_92 V a b else u2 (u2 V 100 52 1) 100 33 (V 100 47)) = u2 (u2 V 100 52 1) 100 33 (V 100 47) := by
      by_cases q : V 100 49 = 1
      · have e : V 100 51 = -1 := by
          rcases a1 with a1 | a1
          · exact absurd q a1
          · exact a1
        rw [if_pos q, e]
        unfold f_Mod_within
        rw [if_pos (show (-1 : Int32) < nI 16 by decide), if_pos rfl]
      · rw [if_neg q]
    show CR B c _ (if V 100 49 = 1 then if f_Mod_within (V 100 51) (nI 16) (nI 18) = 0 then u2 (u2 V 100 52 1) 100 33 (V 100 47) else f_Mod_link1_92 V a b else u2 (u2 V 100 52 1) 100 33 (V 100 47))
    rw [e]
    exact BadK (V := V) hy1 f2
