/-! histories as they hold states, one told over from another (written by wip/whole/c_hist2.py) -/
/-- a history's states: K what they hold -/
def HC (g : GG) (h : Hp) (s : Nat → Option (Nat × Nat)) (K : Nat → Nat → Int32) : Prop := (∀ p o c, s p = some (o, c) → h o = some (.inr (8, [.ref c])) ∧ h c = some (aI g 225 (K p))) ∧ ∀ p o c p' o' c', s p = some (o, c) → s p' = some (o', c') → p ≠ p' → c ≠ c'
/-- what a history's change leaves -/
def HFr (X : Nat → Prop) (h : Hp) (s : Nat → Option (Nat × Nat)) (h' : Hp) (s' : Nat → Option (Nat × Nat)) : Prop := (∀ p x, s p = some x → s' p = some x) ∧ (∀ p o c, s' p = some (o, c) → s p = some (o, c) ∨ ((∀ e, h o ≠ some e) ∧ ∀ e, h c ≠ some e)) ∧ (∀ x e, h x = some e → ¬ X x → (∀ p o c, s p = some (o, c) → x ≠ c) → h' x = some e) ∧ ∀ x e, h x = some e → ∃ e', h' x = some e'
theorem HFr.refl {X : Nat → Prop} {h : Hp} {s : Nat → Option (Nat × Nat)} : HFr X h s h s := ⟨fun _ _ q => q, fun _ _ _ q => Or.inl q, fun _ _ q _ _ => q, fun _ e q => ⟨e, q⟩⟩
theorem HFr.trans {X : Nat → Prop} {h h1 h2 : Hp} {s s1 s2 : Nat → Option (Nat × Nat)} (a : HFr X h s h1 s1) (b : HFr X h1 s1 h2 s2) : HFr X h s h2 s2 := by
  refine ⟨fun p x q => b.1 p x (a.1 p x q), fun p o c q => ?_, fun x e q hX hc => ?_, fun x e q => ?_⟩
  · rcases b.2.1 p o c q with r | ⟨r1, r2⟩
    · exact a.2.1 p o c r
    · refine Or.inr ⟨fun e he => ?_, fun e he => ?_⟩
      · obtain ⟨e', r⟩ := a.2.2.2 o e he; exact r1 e' r
      · obtain ⟨e', r⟩ := a.2.2.2 c e he; exact r2 e' r
  · refine b.2.2.1 x e (a.2.2.1 x e q hX hc) hX (fun p o c r => ?_)
    rcases a.2.1 p o c r with r' | ⟨-, r2⟩
    · exact hc p o c r'
    · exact ne_of q r2
  · obtain ⟨e', r⟩ := a.2.2.2 x e q
    exact b.2.2.2 x e' r
theorem PutR.hc {g : GG} {sts p : Nat} {s s' : Nat → Option (Nat × Nat)} {F : Nat → Int32} {K : Nat → Nat → Int32} {ex : Nat → Prop} {h h' : Hp} (r : PutR g sts s p F ex h h' s') (hs : h sts = some (stA g s)) (hC : HC g h s K) (hex : ∀ x, ex x → (∃ fs, h x = some (.inr (0, fs))) ∧ ∃ e, h' x = some e) : HC g h' s' (va_up K p F) ∧ HFr (fun x => ex x ∨ x = sts) h s h' s' := by
  obtain ⟨p1, o1, c1, p2, p3, p4, p5, p6, p7⟩ := r
  have nex : ∀ x e, h x = some e → (∀ fs, e ≠ .inr (0, fs)) → ¬ ex x := fun x e hx hne q => by
    obtain ⟨⟨fs, hf⟩, -⟩ := hex x q
    rw [hx] at hf; exact hne fs (Option.some.inj hf)
  -- cells of other places are others than the new one's
  have ne1 : ∀ p' o c, s p' = some (o, c) → p' ≠ p → c ≠ c1 ∧ c ≠ o1 ∧ o ≠ o1 ∧ o ≠ c1 := fun p' o c q hp => by
    obtain ⟨k1, k2⟩ := hC.1 p' o c q
    rcases p3 with p3 | ⟨-, q1, q2⟩
    · obtain ⟨l1, l2⟩ := hC.1 p o1 c1 p3
      have n := hC.2 p' o c p o1 c1 q p3 hp
      exact ⟨n, ne_c k2 l1 (by simp), ne_c k1 l1 (by simp; exact n), ne_c k1 l2 (by simp)⟩
    · exact ⟨ne_of k2 q2, ne_of k2 q1, ne_of k1 q1, ne_of k1 q2⟩
  refine ⟨⟨fun p' o c q => ?_, fun p' o c p'' o' c' q q' hne => ?_⟩, fun p' x q => ?_, fun p' o c q => ?_, fun x e hx hX hc => ?_, fun x e hx => ?_⟩
  · rw [p2] at q
    by_cases e : p' = p
    · subst e
      rw [up_same] at q
      cases q
      rw [up_same]; exact ⟨p5, p6⟩
    · rw [up_ne e rfl] at q
      obtain ⟨k1, k2⟩ := hC.1 p' o c q
      obtain ⟨n1, n2, n3, n4⟩ := ne1 p' o c q e
      rw [up_ne e rfl, p7 o (nex _ _ k1 (by simp)) (ne_c k1 hs (by simp [stA])) n3 n4, p7 c (nex _ _ k2 (by simp)) (ne_c k2 hs (by simp [stA])) n2 n1]
      exact ⟨k1, k2⟩
  · rw [p2] at q q'
    by_cases e : p' = p
    · subst e
      rw [up_same] at q
      cases q
      rw [up_ne (Ne.symm hne) rfl] at q'
      exact (ne1 p'' o' c' q' (Ne.symm hne)).1.symm
    · rw [up_ne e rfl] at q
      by_cases e' : p'' = p
      · subst e'
        rw [up_same] at q'
        cases q'
        exact (ne1 p' o c q e).1
      · rw [up_ne e' rfl] at q'
        exact hC.2 p' o c p'' o' c' q q' hne
  · rw [p2]
    by_cases e : p' = p
    · subst e
      rcases p3 with p3 | ⟨p3, -⟩
      · rw [up_same, ← p3]; exact q
      · rw [p3] at q; cases q
    · rw [up_ne e rfl]; exact q
  · rw [p2] at q
    by_cases e : p' = p
    · subst e
      rw [up_same] at q
      cases q
      rcases p3 with p3 | ⟨-, q1, q2⟩
      · exact Or.inl p3
      · exact Or.inr ⟨q1, q2⟩
    · rw [up_ne e rfl] at q; exact Or.inl q
  · have h1 : x ≠ c1 := by
      rcases p3 with p3 | ⟨-, -, q2⟩
      · exact hc p o1 c1 p3
      · exact ne_of hx q2
    by_cases h2 : x = o1
    · rcases p3 with p3 | ⟨-, q1, -⟩
      · rw [h2, (hC.1 p o1 c1 p3).1] at hx
        rw [h2, p5]; exact hx
      · exact absurd h2 (ne_of hx q1)
    · rw [p7 x (fun q => hX (Or.inl q)) (fun q => hX (Or.inr q)) h2 h1]; exact hx
  · by_cases x1 : ex x
    · exact (hex x x1).2
    · by_cases x2 : x = sts
      · rw [x2]; exact ⟨_, p1⟩
      · by_cases x3 : x = o1
        · rw [x3]; exact ⟨_, p5⟩
        · by_cases x4 : x = c1
          · rw [x4]; exact ⟨_, p6⟩
          · rw [p7 x x1 x2 x3 x4]; exact ⟨e, hx⟩
/-- states told over, as many as n -/
def cpK (K K2 : Nat → Nat → Int32) (f2 : Nat) : Nat → Nat → Nat → Int32
  | 0 => K
  | n + 1 => va_up (cpK K K2 f2 n) n (K2 ((f2 + n) % 40))
theorem hcp_15 {g : GG} (hst : (gl g).stackTraces = false) {Q : QT} {a a2 sts sts2 n2 f2 : Nat} {s2 : Nat → Option (Nat × Nat)} {K K2 : Nat → Nat → Int32} (hn2 : n2 ≤ 40) (hf2 : f2 < 40) (hall : ∀ k, k < n2 → s2 ((f2 + k) % 40) ≠ none) : ∀ (t k : Nat) (h : Hp) (s : Nat → Option (Nat × Nat)), n2 - k < t → k ≤ n2 → h a = some (.inr (0, [.int (nI n2), .int (nI 0), .ref sts])) → h sts = some (stA g s) → h a2 = some (.inr (0, [.int (nI n2), .int (nI f2), .ref sts2])) → h sts2 = some (stA g s2) → sts ≠ sts2 → HC g h s (cpK K K2 f2 k) → HC g h s2 K2 → (∀ p o c p' o' c', s p = some (o, c) → s2 p' = some (o', c') → c ≠ c') →
    (∀ j, j < k → s j ≠ none) → (∀ h' s', HFr (fun x => x = sts) h s h' s' → HC g h' s' (cpK K K2 f2 n2) → (h' sts = some (stA g s') ∧ ∀ j, j < n2 → s' j ≠ none) → Q (.inl none) h') → PW g M_History_copyFrom 3 (2 * t) (226 * t) Q 15 [.ref a, .ref a2, .int (nI k), .retAddr 0] [] h := by
  intro t
  induction t with
  | zero => intro k h s ht; omega
  | succ t ih =>
    intro k h s ht hk ha hs ha2 hs2 hss hC hC2 hd hlv hq
    refine pw_iload_n e_History_copyFrom_15 rfl ?_
    refine pw_aload_n e_History_copyFrom_16 rfl ?_
    refine pw_getf e_History_copyFrom_17 fl_History_9 ha rfl ?_
    refine pw_icmp_geN (tgt := 54) e_History_copyFrom_20 (by decide) (by omega) (by omega) (fun (hge : n2 ≤ k) => ?_) (fun (hge : k < n2) => ?_)
    · refine pw_vret e_History_copyFrom_54 rfl ?_
      have e : k = n2 := by omega
      rw [e] at hC
      exact hq h s HFr.refl hC ⟨hs, e ▸ hlv⟩
    · have hm := Nat.mod_lt (f2 + k) (show 0 < 40 by decide)
      have hpi : vp_in (nI ((f2 + k) % 40)) 40 := vp_in_nI hm (by decide)
      have hpc : (nI ((f2 + k) % 40)).toNatClampNeg = (f2 + k) % 40 := nI_clamp (by omega)
      refine pw_aload_n e_History_copyFrom_23 rfl ?_
      refine pw_getf e_History_copyFrom_24 fl_History_20 ha2 rfl ?_
      refine pw_aload_n e_History_copyFrom_27 rfl ?_
      refine pw_getf e_History_copyFrom_28 fl_History_15 ha2 rfl ?_
      refine pw_iload_n e_History_copyFrom_31 rfl ?_
      refine pw_iaddN e_History_copyFrom_32 ?_
      refine pw_bipush (v := nI 40) e_History_copyFrom_33 (by decide) ?_
      refine pw_iremN (by omega) (by omega) (by omega) e_History_copyFrom_35 ?_
      refine pw_aald e_History_copyFrom_36 hs2 hpi ?_
      rw [hpc]
      rcases hsp : s2 ((f2 + k) % 40) with _ | ⟨o1, c1⟩
      · exact absurd hsp (hall k hge)
      · obtain ⟨k1, k2⟩ := hC2.1 _ o1 c1 hsp
        refine pw_astore_n (ls2 := [_, _, _, _]) e_History_copyFrom_37 (by decide) rfl ?_
        refine pw_aload_n e_History_copyFrom_38 rfl ?_
        refine pw_ifnull e_History_copyFrom_39 ?_
        refine pw_aload_n e_History_copyFrom_42 rfl ?_
        refine pw_iload_n e_History_copyFrom_43 rfl ?_
        refine pw_aload_n e_History_copyFrom_44 rfl ?_
        refine pw_callV (kc := 2 * t) (ks := 226 * t) (As := [.int (nI k), .ref o1]) e_History_copyFrom_45 li_History_24 rfl ha (q_History_put hst (by omega) ha hs k1 k2 (fun o c q => ⟨(hC.1 k o c q).1, _, (hC.1 k o c q).2⟩)) rfl (by decide) (Nat.le_of_ble_eq_true rfl) (fun E h' q => absurd q.1 (by simp)) (fun v h1 hq1 => ?_)
        obtain ⟨hv, s1, hP⟩ := hq1
        cases hv
        obtain ⟨hC1, hF1⟩ := hP.hc hs hC (fun x q => absurd q (fun z => z))
        have hF2 : HFr (fun x => x = sts) h s h1 s1 := ⟨hF1.1, hF1.2.1, fun x e q hX => hF1.2.2.1 x e q (fun z => hX (z.resolve_left (fun y => y))), hF1.2.2.2⟩
        have ob : ∀ x fs ci, h x = some (.inr (ci, fs)) → x ≠ sts → h1 x = some (.inr (ci, fs)) := fun x fs ci q hne => hF2.2.2.1 x _ q hne (fun p o c r => ne_c q (hC.1 p o c r).2 (by simp))
        have ca : ∀ p o c, s2 p = some (o, c) → h1 c = some (aI g 225 (K2 p)) := fun p o c q => hF2.2.2.1 c _ (hC2.1 p o c q).2 (ne_c (hC2.1 p o c q).2 hs (by simp [stA])) (fun p' o' c' r => (hd p' o' c' p o c r q).symm)
        refine pw_iincN (ls2 := [_, _, _, _]) e_History_copyFrom_48 rfl (by decide) rfl ?_
        refine pw_goto (tgt := 15) e_History_copyFrom_51 (by decide) ?_
        refine pw_fgt (ls' := [.ref a, .ref a2, .int (nI (k + 1)), .retAddr 0]) ⟨Or.inr rfl, Or.inr rfl, Or.inr rfl, Or.inl rfl, trivial⟩ ?_
        refine ih (k + 1) h1 s1 (by omega) (by omega) (ob _ _ _ ha (ne_c ha hs (by simp [stA]))) hP.1 (ob _ _ _ ha2 (ne_c ha2 hs (by simp [stA]))) ?_ hss hC1 ⟨fun p o c q => ⟨ob _ _ _ (hC2.1 p o c q).1 (ne_c (hC2.1 p o c q).1 hs (by simp [stA])), ca p o c q⟩, hC2.2⟩ (fun p o c p' o' c' q q' => ?_) (fun j hj => ?_) (fun h' s' hF' => hq h' s' (hF2.trans hF'))
        · exact hF2.2.2.1 sts2 _ hs2 hss.symm (fun p o c q => ne_c hs2 (hC.1 p o c q).2 (by simp [stA]))
        · rcases hF2.2.1 p o c q with r | ⟨-, r2⟩
          · exact hd p o c p' o' c' r q'
          · exact (ne_of (hC2.1 p' o' c' q').2 r2).symm
        · obtain ⟨-, o2, c2, e2, -⟩ := hP
          by_cases c : j = k
          · rw [e2, c, up_same]; exact Option.some_ne_none _
          · rw [e2, up_ne c rfl]; exact hlv j (by omega)
theorem q_History_copyFrom {g : GG} {h : Hp} (hst : (gl g).stackTraces = false) {a a2 sts sts2 n2 f2 : Nat} {m0 m1 : Int32} {s s2 : Nat → Option (Nat × Nat)} {K K2 : Nat → Nat → Int32} (hn2 : n2 ≤ 40) (hf2 : f2 < 40) (hall : ∀ k, k < n2 → s2 ((f2 + k) % 40) ≠ none) (haa : a ≠ a2) (ha : h a = some (.inr (0, [.int m0, .int m1, .ref sts]))) (hs : h sts = some (stA g s)) (ha2 : h a2 = some (.inr (0, [.int (nI n2), .int (nI f2), .ref sts2]))) (hs2 : h sts2 = some (stA g s2)) (hss : sts ≠ sts2) (hC : HC g h s K) (hC2 : HC g h s2 K2) (hd : ∀ p o c p' o' c', s p = some (o, c) → s2 p' = some (o', c') → c ≠ c') :
    PM g M_History_copyFrom 3 82 9266 [.ref a, .ref a2] h (fun r h' => r = .inl none ∧ ∃ s', HFr (fun x => x = sts) (va_up h a (some (.inr (0, [.int (nI n2), .int (nI 0), .ref sts])))) s h' s' ∧ HC g h' s' (cpK K K2 f2 n2) ∧ h' sts = some (stA g s') ∧ ∀ j, j < n2 → s' j ≠ none) := by
  refine PM.of hst (by decide) rfl (fun v hv => ?_) (Nat.le_of_ble_eq_true rfl) ?_
  · simp only [List.mem_cons, List.not_mem_nil, or_false] at hv; rcases hv with rfl | rfl <;> rfl
  · refine pw_aload_n e_History_copyFrom_0 rfl ?_
    refine pw_aload_n e_History_copyFrom_1 rfl ?_
    refine pw_getf e_History_copyFrom_2 fl_History_9 ha2 rfl ?_
    refine pw_putf e_History_copyFrom_5 fp_History_9 ha (Nat.le_of_ble_eq_true rfl) rfl rfl ?_
    refine pw_aload_n e_History_copyFrom_8 rfl ?_
    refine pw_iconst (v := nI 0) e_History_copyFrom_9 (by decide) ?_
    refine pw_putf e_History_copyFrom_10 fp_History_15 up_same (Nat.le_of_ble_eq_true rfl) rfl rfl ?_
    rw [up_up]
    refine pw_iconst (v := nI 0) e_History_copyFrom_13 (by decide) ?_
    refine pw_istore_n (ls2 := [_, _, _, _]) e_History_copyFrom_14 (by decide) rfl ?_
    have fr : ∀ (s : Nat → Option (Nat × Nat)) (K : Nat → Nat → Int32), HC g h s K → HC g (va_up h a (some (.inr (0, [.int (nI n2), .int (nI 0), .ref sts])))) s K := fun s K hC => ⟨fun p o c q => ⟨up_ne (ne_c (hC.1 p o c q).1 ha (by simp)) (hC.1 p o c q).1, up_ne (ne_c (hC.1 p o c q).2 ha (by simp)) (hC.1 p o c q).2⟩, hC.2⟩
    refine hcp_15 (t := 41) hst hn2 hf2 hall 0 _ s (by omega) (Nat.zero_le _) up_same (up_ne (ne_c hs ha (by simp [stA])) hs) (up_ne haa.symm ha2) (up_ne (ne_c hs2 ha (by simp [stA])) hs2) hss (fr s _ hC) (fr s2 _ hC2) hd (fun j hj => absurd hj (Nat.not_lt_zero _)) (fun h' s' hF hK hS => ⟨rfl, s', hF, hK, hS⟩)
