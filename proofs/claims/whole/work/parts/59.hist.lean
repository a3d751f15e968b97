/-! the states ahead of acts: History (written by wip/whole/c_hist.py) -/
theorem stA_up {g : GG} {s : Nat → Option (Nat × Nat)} {p o c : Nat} : (.inl (gc g 4, 40, .inr (.inr (.inr (.inr (va_up (fun k => (s k).map Prod.fst) p (some o)))))) : va_E) = stA g (va_up s p (some (o, c))) := by
  have e : va_up (fun k => (s k).map Prod.fst) p (some o) = fun k => (va_up s p (some (o, c)) k).map Prod.fst := by
    funext k
    by_cases h : k = p
    · subst h; rw [up_same, up_same]; rfl
    · rw [up_ne h rfl, up_ne h rfl]
  unfold stA
  rw [e]
/-- a state was put at a place of a history -/
def PutR (g : GG) (sts : Nat) (s : Nat → Option (Nat × Nat)) (p : Nat) (F : Nat → Int32) (ex : Nat → Prop) (h h' : Hp) (s' : Nat → Option (Nat × Nat)) : Prop :=
  h' sts = some (stA g s') ∧ ∃ o1 c1, s' = va_up s p (some (o1, c1)) ∧ (s p = some (o1, c1) ∨ (s p = none ∧ (∀ e, h o1 ≠ some e) ∧ ∀ e, h c1 ≠ some e)) ∧ o1 ≠ c1 ∧ h' o1 = some (.inr (8, [.ref c1])) ∧ h' c1 = some (aI g 225 F) ∧ ∀ x, ¬ ex x → x ≠ sts → x ≠ o1 → x ≠ c1 → h' x = h x
theorem ne_of {h : Hp} {x y : Nat} {e : va_E} (hx : h x = some e) (hy : ∀ e, h y ≠ some e) : x ≠ y := fun c => hy e (by rw [← c]; exact hx)
theorem ne_c {h : Hp} {x y : Nat} {e e' : va_E} (hx : h x = some e) (hy : h y = some e') (hne : e ≠ e') : x ≠ y := fun c => hne (by rw [c, hy] at hx; exact (Option.some.inj hx).symm)
theorem up_up_self {α : Type} {s : Nat → α} {p : Nat} {x : α} (h : s p = x) : va_up s p x = s := by
  funext k
  by_cases c : k = p
  · subst c; rw [up_same, h]
  · rw [up_ne c rfl]
theorem q_History_put {g : GG} {h : Hp} (hst : (gl g).stackTraces = false) {a sts b bc p : Nat} {m0 m1 : Int32} {s : Nat → Option (Nat × Nat)} {F : Nat → Int32} (hp : p < 40) (ha : h a = some (.inr (0, [.int m0, .int m1, .ref sts]))) (hs : h sts = some (stA g s)) (hb : h b = some (.inr (8, [.ref bc]))) (hbc : h bc = some (aI g 225 F))
    (hc : ∀ o c, s p = some (o, c) → h o = some (.inr (8, [.ref c])) ∧ ∃ f, h c = some (aI g 225 f)) : PM g M_History_put 2 2 226 [.ref a, .int (nI p), .ref b] h (fun r h' => r = .inl none ∧ ∃ s', PutR g sts s p F (fun _ => False) h h' s') := by
  have hpi : vp_in (nI p) 40 := vp_in_nI hp (by decide)
  have hpc : (nI p).toNatClampNeg = p := nI_clamp (by omega)
  refine PM.of hst (by decide) rfl (fun v hv => ?_) (Nat.le_of_ble_eq_true rfl) ?_
  · simp only [List.mem_cons, List.not_mem_nil, or_false] at hv; rcases hv with rfl | rfl | rfl <;> rfl
  · refine pw_aload_n e_History_put_0 rfl ?_
    refine pw_getf e_History_put_1 fl_History_20 ha rfl ?_
    refine pw_iload_n e_History_put_4 rfl ?_
    refine pw_aald e_History_put_5 hs hpi ?_
    rw [hpc]
    rcases hsp : s p with _ | ⟨o1, c1⟩
    · refine pw_ifnonnullN e_History_put_6 ?_
      refine pw_aload_n e_History_put_9 rfl ?_
      refine pw_getf e_History_put_10 fl_History_20 ha rfl ?_
      refine pw_iload_n e_History_put_13 rfl ?_
      refine pw_new (kc := 1) (ks := 225) (ci := 8) (N := 1) (fs := [.null]) e_History_put_14 rfl i_State t_State_ok cl_History_18 in_State ini_State (by decide +kernel) (fun o1 ho1 => ?_)
      refine pw_dup e_History_put_17 rfl ?_
      refine pw_callIN (kc := 0) (ks := 0) (As := []) e_History_put_18 li_History_32 (q_State_init hst up_same) rfl (by decide) (Nat.le_of_ble_eq_true rfl) nox_Mk (fun v h1 hq => ?_)
      obtain ⟨hv, A, hA, rfl⟩ := hq
      cases hv
      have n1 : A 0 ≠ o1 := fun c => (List.nodup_cons.mp hA.1).1 (by rw [← c]; exact List.mem_cons_self)
      have f1 : ∀ e, h (A 0) ≠ some e := fun e he => hA.2 (A 0) List.mem_cons_self e (up_ne n1 he)
      have look : ∀ x e, h x = some e → ov (va_up h o1 (some (.inr (8, [.null])))) ((o1, O_State g A) :: T_State g A) x = some e := fun x e he => by
        show va_up (va_up (va_up h o1 _) (A 0) _) o1 _ x = some e
        rw [up_ne (ne_of he ho1) rfl, up_ne (ne_of he f1) rfl, up_ne (ne_of he ho1) rfl]; exact he
      have lo1 : ov (va_up h o1 (some (.inr (8, [.null])))) ((o1, O_State g A) :: T_State g A) o1 = some (.inr (8, [.ref (A 0)])) := up_same
      have lc1 : ov (va_up h o1 (some (.inr (8, [.null])))) ((o1, O_State g A) :: T_State g A) (A 0) = some (aI g 225 (fun _ => 0)) := by
        show va_up (va_up (va_up h o1 _) (A 0) _) o1 _ (A 0) = _
        rw [up_ne n1 rfl]; exact up_same
      have rest : ∀ x, x ≠ o1 → x ≠ A 0 → ov (va_up h o1 (some (.inr (8, [.null])))) ((o1, O_State g A) :: T_State g A) x = h x := fun x h1 h2 => by
        show va_up (va_up (va_up h o1 _) (A 0) _) o1 _ x = _
        rw [up_ne h1 rfl, up_ne h2 rfl, up_ne h1 rfl]
      generalize ov (va_up h o1 (some (.inr (8, [.null])))) ((o1, O_State g A) :: T_State g A) = h2 at look lo1 lc1 rest ⊢
      refine pw_aast e_History_put_21 (look _ _ hs) lo1 hpi ?_
      rw [hpc, stA_up (c := A 0)]
      have s1 : sts ≠ o1 := ne_of hs ho1
      have s2 : sts ≠ A 0 := ne_of hs f1
      have s3 : a ≠ sts := ne_c ha hs (by simp [stA])
      have s4 : b ≠ sts := ne_c hb hs (by simp [stA])
      have s5 : bc ≠ sts := ne_c hbc hs (by simp [stA])
      refine pw_aload_n e_History_put_22 rfl ?_
      refine pw_getf e_History_put_23 fl_History_20 (up_ne s3 (look _ _ ha)) rfl ?_
      refine pw_iload_n e_History_put_26 rfl ?_
      refine pw_aald e_History_put_27 up_same hpi ?_
      rw [hpc, up_same]
      refine pw_aload_n e_History_put_28 rfl ?_
      refine pw_detV (As := [.ref b]) e_History_put_29 li_History_28 rfl (up_ne s1.symm lo1) (q_State_copyFrom hst (up_ne s1.symm lo1) (up_ne s4 (look _ _ hb)) _ F (up_ne s2.symm lc1) (up_ne s5 (look _ _ hbc))) rfl (by decide) (Nat.le_of_ble_eq_true rfl) rfl ?_
      refine pw_vret e_History_put_32 rfl ?_
      refine ⟨rfl, _, up_ne s2 up_same, o1, A 0, rfl, Or.inr ⟨hsp, ho1, f1⟩, n1.symm, ?_, up_same, fun x _ h1 h3 h4 => ?_⟩
      · rw [up_ne n1.symm rfl, up_ne s1.symm rfl]; exact lo1
      · rw [up_ne h4 rfl, up_ne h1 rfl]; exact rest x h3 h4
    · obtain ⟨k1, f, k2⟩ := hc o1 c1 hsp
      refine pw_ifnonnull (tgt := 22) e_History_put_6 (by decide) ?_
      refine pw_aload_n e_History_put_22 rfl ?_
      refine pw_getf e_History_put_23 fl_History_20 ha rfl ?_
      refine pw_iload_n e_History_put_26 rfl ?_
      refine pw_aald e_History_put_27 hs hpi ?_
      rw [hpc, hsp]
      refine pw_aload_n e_History_put_28 rfl ?_
      refine pw_detV (As := [.ref b]) e_History_put_29 li_History_28 rfl k1 (q_State_copyFrom hst k1 hb f F k2 hbc) rfl (by decide) (Nat.le_of_ble_eq_true rfl) rfl ?_
      refine pw_vret e_History_put_32 rfl ?_
      have n1 : o1 ≠ c1 := ne_c k1 k2 (by simp)
      have n2 : sts ≠ c1 := ne_c hs k2 (by simp [stA])
      refine ⟨rfl, va_up s p (some (o1, c1)), ?_, o1, c1, rfl, Or.inl hsp, n1, up_ne n1 k1, up_same, fun x _ _ _ h4 => up_ne h4 rfl⟩
      rw [up_up_self hsp, up_ne n2 rfl]; exact hs
theorem PutR.keep {g : GG} {sts p x : Nat} {s s' : Nat → Option (Nat × Nat)} {F : Nat → Int32} {ex : Nat → Prop} {h h' : Hp} {e : va_E} (r : PutR g sts s p F ex h h' s') (hx : h x = some e) (h0 : ¬ ex x) (h1 : x ≠ sts) (h2 : ∀ o c, s p = some (o, c) → x ≠ o ∧ x ≠ c) : h' x = some e := by
  obtain ⟨-, o1, c1, -, hn, -, -, -, hr⟩ := r
  rcases hn with q | ⟨-, q1, q2⟩
  · rw [hr x h0 h1 (h2 _ _ q).1 (h2 _ _ q).2]; exact hx
  · rw [hr x h0 h1 (ne_of hx q1) (ne_of hx q2)]; exact hx
def kpN (n : Nat) : Nat := if n = 40 then 39 else n
def kpF (n f : Nat) : Nat := if n = 40 then (f + 1) % 40 else f
theorem keep_32 {g : GG} {h : Hp} (hst : (gl g).stackTraces = false) {Q : QT} {a sts b bc n f : Nat} {s : Nat → Option (Nat × Nat)} {F : Nat → Int32} (hn : n < 40) (hf : f < 40) (ha : h a = some (.inr (0, [.int (nI n), .int (nI f), .ref sts]))) (hs : h sts = some (stA g s)) (hb : h b = some (.inr (8, [.ref bc]))) (hbc : h bc = some (aI g 225 F))
    (hc : ∀ p o c, s p = some (o, c) → h o = some (.inr (8, [.ref c])) ∧ ∃ f, h c = some (aI g 225 f))
    (hk : ∀ h' s', PutR g sts s ((f + n) % 40) F (fun x => x = a) h h' s' → h' a = some (.inr (0, [.int (nI (n + 1)), .int (nI f), .ref sts])) → Q (.inl none) h') : PW g M_History_keep 3 2 226 Q 32 [.ref a, .ref b] [] h := by
  have hm := Nat.mod_lt (f + n) (show 0 < 40 by decide)
  refine pw_aload_n e_History_keep_32 rfl ?_
  refine pw_aload_n e_History_keep_33 rfl ?_
  refine pw_getf e_History_keep_34 fl_History_15 ha rfl ?_
  refine pw_aload_n e_History_keep_37 rfl ?_
  refine pw_getf e_History_keep_38 fl_History_9 ha rfl ?_
  refine pw_iaddN e_History_keep_41 ?_
  refine pw_bipush (v := nI 40) e_History_keep_42 (by decide) ?_
  refine pw_iremN (by omega) (by omega) (by omega) e_History_keep_44 ?_
  refine pw_aload_n e_History_keep_45 rfl ?_
  refine pw_callV (kc := 0) (ks := 0) (As := [.int (nI ((f + n) % 40)), .ref b]) e_History_keep_46 li_History_24 rfl ha (q_History_put hst hm ha hs hb hbc (fun o c q => hc _ o c q)) rfl (by decide) (Nat.le_of_ble_eq_true rfl) (fun E h' q => absurd q.1 (by simp)) (fun v h1 hq => ?_)
  obtain ⟨hv, s', hP⟩ := hq
  cases hv
  have a1 : a ≠ sts := ne_c ha hs (by simp [stA])
  have ha1 : h1 a = some (.inr (0, [.int (nI n), .int (nI f), .ref sts])) := hP.keep ha (fun q => q) a1 (fun o c q => by
    obtain ⟨k1, f', k2⟩ := hc _ o c q
    exact ⟨ne_c ha k1 (by simp), ne_c ha k2 (by simp)⟩)
  refine pw_aload_n e_History_keep_49 rfl ?_
  refine pw_dup e_History_keep_50 rfl ?_
  refine pw_getf e_History_keep_51 fl_History_9 ha1 rfl ?_
  refine pw_iconst (v := nI 1) e_History_keep_54 (by decide) ?_
  refine pw_iaddN e_History_keep_55 ?_
  refine pw_putf e_History_keep_56 fp_History_9 ha1 (Nat.le_of_ble_eq_true rfl) rfl rfl ?_
  refine pw_vret e_History_keep_59 rfl ?_
  obtain ⟨p1, o1, c1, p2, p3, p4, p5, p6, p7⟩ := hP
  have n1 : o1 ≠ a := fun c => by rw [c, ha1] at p5; simp at p5
  have n2 : c1 ≠ a := fun c => by rw [c, ha1] at p6; simp at p6
  exact hk _ s' ⟨(up_ne a1.symm rfl).trans p1, o1, c1, p2, p3, p4, (up_ne n1 rfl).trans p5, (up_ne n2 rfl).trans p6, fun x h0 h2 h3 h4 => (up_ne h0 rfl).trans (p7 x (fun q => q) h2 h3 h4)⟩ up_same
theorem q_History_keep {g : GG} {h : Hp} (hst : (gl g).stackTraces = false) {a sts b bc n f : Nat} {s : Nat → Option (Nat × Nat)} {F : Nat → Int32} (hn : n ≤ 40) (hf : f < 40) (ha : h a = some (.inr (0, [.int (nI n), .int (nI f), .ref sts]))) (hs : h sts = some (stA g s)) (hb : h b = some (.inr (8, [.ref bc]))) (hbc : h bc = some (aI g 225 F))
    (hc : ∀ p o c, s p = some (o, c) → h o = some (.inr (8, [.ref c])) ∧ ∃ f, h c = some (aI g 225 f)) : PM g M_History_keep 3 2 226 [.ref a, .ref b] h (fun r h' => r = .inl none ∧ ∃ s', PutR g sts s ((kpF n f + kpN n) % 40) F (fun x => x = a) h h' s' ∧ h' a = some (.inr (0, [.int (nI (kpN n + 1)), .int (nI (kpF n f)), .ref sts]))) := by
  refine PM.of hst (by decide) rfl (fun v hv => ?_) (Nat.le_of_ble_eq_true rfl) ?_
  · simp only [List.mem_cons, List.not_mem_nil, or_false] at hv; rcases hv with rfl | rfl <;> rfl
  · refine pw_aload_n e_History_keep_0 rfl ?_
    refine pw_getf e_History_keep_1 fl_History_9 ha rfl ?_
    refine pw_bipush (v := nI 40) e_History_keep_4 (by decide) ?_
    refine pw_icmp_neN (tgt := 32) e_History_keep_6 (by decide) (by omega) (by omega) (fun (hne : ¬ n = 40) => ?_) (fun (hne : n = 40) => ?_)
    · refine keep_32 hst (by omega) hf ha hs hb hbc hc (fun h' s' r q => ?_)
      have e1 : kpN n = n := if_neg hne
      have e2 : kpF n f = f := if_neg hne
      rw [e1, e2]
      exact ⟨rfl, s', r, q⟩
    · have hm := Nat.mod_lt (f + 1) (show 0 < 40 by decide)
      refine pw_aload_n e_History_keep_9 rfl ?_
      refine pw_aload_n e_History_keep_10 rfl ?_
      refine pw_getf e_History_keep_11 fl_History_15 ha rfl ?_
      refine pw_iconst (v := nI 1) e_History_keep_14 (by decide) ?_
      refine pw_iaddN e_History_keep_15 ?_
      refine pw_bipush (v := nI 40) e_History_keep_16 (by decide) ?_
      refine pw_iremN (by omega) (by omega) (by omega) e_History_keep_18 ?_
      refine pw_putf e_History_keep_19 fp_History_15 ha (Nat.le_of_ble_eq_true rfl) rfl rfl ?_
      refine pw_aload_n e_History_keep_22 rfl ?_
      refine pw_dup e_History_keep_23 rfl ?_
      refine pw_getf e_History_keep_24 fl_History_9 up_same rfl ?_
      refine pw_iconst (v := nI 1) e_History_keep_27 (by decide) ?_
      refine pw_isubN (by omega) e_History_keep_28 ?_
      refine pw_putf e_History_keep_29 fp_History_9 up_same (Nat.le_of_ble_eq_true rfl) rfl rfl ?_
      rw [up_up]
      have a1 : a ≠ sts := ne_c ha hs (by simp [stA])
      have a2 : a ≠ b := ne_c ha hb (by simp)
      have a3 : a ≠ bc := ne_c ha hbc (by simp)
      refine keep_32 hst (n := n - 1) (f := (f + 1) % 40) (by omega) hm up_same (up_ne a1.symm hs) (up_ne a2.symm hb) (up_ne a3.symm hbc) (fun p o c q => ?_) (fun h' s' r q => ?_)
      · obtain ⟨k1, f', k2⟩ := hc p o c q
        exact ⟨up_ne (ne_c k1 ha (by simp)) k1, f', up_ne (ne_c k2 ha (by simp)) k2⟩
      · have e1 : kpN n = 39 := if_pos hne
        have e2 : kpF n f = (f + 1) % 40 := if_pos hne
        have e3 : n - 1 = 39 := by omega
        rw [e3] at r q
        rw [e1, e2]
        refine ⟨rfl, s', ?_, q⟩
        obtain ⟨p1, o1, c1, p2, p3, p4, p5, p6, p7⟩ := r
        refine ⟨p1, o1, c1, p2, ?_, p4, p5, p6, fun x h0 h2 h3 h4 => (p7 x h0 h2 h3 h4).trans (up_ne h0 rfl)⟩
        rcases p3 with p3 | ⟨p3, q1, q2⟩
        · exact Or.inl p3
        · have n1 : o1 ≠ a := fun c => q1 _ (by rw [c]; exact up_same)
          have n2 : c1 ≠ a := fun c => q2 _ (by rw [c]; exact up_same)
          exact Or.inr ⟨p3, fun e he => q1 e (up_ne n1 he), fun e he => q2 e (up_ne n2 he)⟩
theorem q_History_takeBack0 {g : GG} {h : Hp} (hst : (gl g).stackTraces = false) {a sts b : Nat} {m1 : Int32} (ha : h a = some (.inr (0, [.int (nI 0), .int m1, .ref sts]))) : PM g M_History_takeBack 1 0 0 [.ref a, .ref b] h (RetV (some (.int (-1))) h) := by
  refine PM.of hst (by decide) rfl (fun v hv => ?_) (Nat.le_of_ble_eq_true rfl) ?_
  · simp only [List.mem_cons, List.not_mem_nil, or_false] at hv; rcases hv with rfl | rfl <;> rfl
  · refine pw_aload_n e_History_takeBack_0 rfl ?_
    refine pw_getf e_History_takeBack_1 fl_History_9 ha rfl ?_
    refine pw_if_ne (tgt := 9) e_History_takeBack_4 (by decide) (fun hne => absurd rfl hne) (fun _ => ?_)
    refine pw_iconst (v := (-1)) e_History_takeBack_7 (by decide) ?_
    exact pw_iret e_History_takeBack_8 rfl rfl ⟨rfl, rfl⟩
theorem q_History_takeBack {g : GG} {h : Hp} (hst : (gl g).stackTraces = false) {a sts b bc n f o1 c1 : Nat} {s : Nat → Option (Nat × Nat)} {F G : Nat → Int32} (hn : 0 < n ∧ n ≤ 40) (hf : f < 40) (ha : h a = some (.inr (0, [.int (nI n), .int (nI f), .ref sts]))) (hs : h sts = some (stA g s)) (hb : h b = some (.inr (8, [.ref bc]))) (hbc : h bc = some (aI g 225 F))
    (hsp : s ((f + n - 1) % 40) = some (o1, c1)) (ho : h o1 = some (.inr (8, [.ref c1]))) (hc : h c1 = some (aI g 225 G)) : PM g M_History_takeBack 2 0 0 [.ref a, .ref b] h (RetV (some (.int (nI (n - 1)))) (va_up (va_up h bc (some (aI g 225 G))) a (some (.inr (0, [.int (nI (n - 1)), .int (nI f), .ref sts]))))) := by
  have hm := Nat.mod_lt (f + n - 1) (show 0 < 40 by decide)
  have hpi : vp_in (nI ((f + n - 1) % 40)) 40 := vp_in_nI hm (by decide)
  have hpc : (nI ((f + n - 1) % 40)).toNatClampNeg = (f + n - 1) % 40 := nI_clamp (by omega)
  have a1 : a ≠ bc := ne_c ha hbc (by simp)
  refine PM.of hst (by decide) rfl (fun v hv => ?_) (Nat.le_of_ble_eq_true rfl) ?_
  · simp only [List.mem_cons, List.not_mem_nil, or_false] at hv; rcases hv with rfl | rfl <;> rfl
  · refine pw_aload_n e_History_takeBack_0 rfl ?_
    refine pw_getf e_History_takeBack_1 fl_History_9 ha rfl ?_
    refine pw_if_ne (tgt := 9) e_History_takeBack_4 (by decide) (fun _ => ?_) (fun hne => absurd hne (nI_ne0 (by omega) (by omega)))
    refine pw_aload_n e_History_takeBack_9 rfl ?_
    refine pw_getf e_History_takeBack_10 fl_History_20 ha rfl ?_
    refine pw_aload_n e_History_takeBack_13 rfl ?_
    refine pw_getf e_History_takeBack_14 fl_History_15 ha rfl ?_
    refine pw_aload_n e_History_takeBack_17 rfl ?_
    refine pw_getf e_History_takeBack_18 fl_History_9 ha rfl ?_
    refine pw_iaddN e_History_takeBack_21 ?_
    refine pw_iconst (v := nI 1) e_History_takeBack_22 (by decide) ?_
    refine pw_isubN (by omega) e_History_takeBack_23 ?_
    refine pw_bipush (v := nI 40) e_History_takeBack_24 (by decide) ?_
    refine pw_iremN (by omega) (by omega) (by omega) e_History_takeBack_26 ?_
    refine pw_aald e_History_takeBack_27 hs hpi ?_
    rw [hpc, hsp]
    refine pw_astore_n (ls2 := [_, _, _]) e_History_takeBack_28 (by decide) rfl ?_
    refine pw_aload_n e_History_takeBack_29 rfl ?_
    refine pw_ifnull e_History_takeBack_30 ?_
    refine pw_aload_n e_History_takeBack_33 rfl ?_
    refine pw_aload_n e_History_takeBack_34 rfl ?_
    refine pw_detV (As := [.ref o1]) e_History_takeBack_35 li_History_28 rfl hb (q_State_copyFrom hst hb ho F G hbc hc) rfl (by decide) (Nat.le_of_ble_eq_true rfl) rfl ?_
    refine pw_aload_n e_History_takeBack_38 rfl ?_
    refine pw_dup e_History_takeBack_39 rfl ?_
    refine pw_getf e_History_takeBack_40 fl_History_9 (up_ne a1 ha) rfl ?_
    refine pw_iconst (v := nI 1) e_History_takeBack_43 (by decide) ?_
    refine pw_isubN (by omega) e_History_takeBack_44 ?_
    refine pw_putf e_History_takeBack_45 fp_History_9 (up_ne a1 ha) (Nat.le_of_ble_eq_true rfl) rfl rfl ?_
    refine pw_aload_n e_History_takeBack_48 rfl ?_
    refine pw_getf e_History_takeBack_49 fl_History_9 up_same rfl ?_
    exact pw_iret e_History_takeBack_52 rfl rfl ⟨rfl, rfl⟩
