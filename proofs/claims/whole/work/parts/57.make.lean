/-! objects as they are made: constructors (written by wip/whole/c_make.py) -/
theorem ov_cat {h : Hp} : ∀ (l1 l2 : List (Nat × va_E)), ov h (l1 ++ l2) = ov (ov h l2) l1
  | [], _ => rfl
  | (a, e) :: l1, l2 => by
    show va_up (ov h (l1 ++ l2)) a (some e) = va_up (ov (ov h l2) l1) a (some e)
    rw [ov_cat l1 l2]
theorem ov_upc {h : Hp} {q : Nat} {e : Option va_E} : ∀ {l : List (Nat × va_E)}, q ∉ l.map Prod.fst → ov (va_up h q e) l = va_up (ov h l) q e
  | [], _ => rfl
  | (a, e0) :: l, hq => by
    have h1 : q ≠ a := fun c => hq (by rw [c]; exact List.mem_cons_self)
    have h2 : q ∉ l.map Prod.fst := fun c => hq (List.mem_cons_of_mem _ c)
    show va_up (ov (va_up h q e) l) a (some e0) = va_up (va_up (ov h l) a (some e0)) q e
    rw [ov_upc h2]; exact up_comm _ _ _ h1
theorem ov_com {h : Hp} : ∀ {l1 l2 : List (Nat × va_E)}, (∀ x ∈ l1.map Prod.fst, x ∉ l2.map Prod.fst) → ov (ov h l1) l2 = ov (ov h l2) l1
  | [], _, _ => rfl
  | (a, e) :: l1, l2, hd => by
    show ov (va_up (ov h l1) a (some e)) l2 = va_up (ov (ov h l2) l1) a (some e)
    rw [ov_upc (hd a List.mem_cons_self), ov_com (fun x hx => hd x (List.mem_cons_of_mem _ hx))]
theorem ov_abs {h : Hp} {q : Nat} {e : Option va_E} : ∀ {l : List (Nat × va_E)}, q ∈ l.map Prod.fst → ov (va_up h q e) l = ov h l
  | [], hq => by cases hq
  | (a, e0) :: l, hq => by
    by_cases c : q ∈ l.map Prod.fst
    · show va_up (ov (va_up h q e) l) a (some e0) = va_up (ov h l) a (some e0)
      rw [ov_abs c]
    · have h1 : q = a := (List.mem_cons.mp hq).resolve_right c
      subst h1
      show va_up (ov (va_up h q e) l) q (some e0) = va_up (ov h l) q (some e0)
      rw [ov_upc c, up_up]
theorem ov_some {h : Hp} : ∀ {l : List (Nat × va_E)} {q : Nat}, q ∈ l.map Prod.fst → ∃ e, ov h l q = some e
  | [], _, hq => by cases hq
  | (a, e0) :: l, q, hq => by
    by_cases c : q = a
    · subst c; exact ⟨e0, up_same⟩
    · obtain ⟨e, he⟩ := ov_some (h := h) ((List.mem_cons.mp hq).resolve_left c)
      exact ⟨e, up_ne c he⟩
theorem ov_app {h : Hp} {q : Nat} {e : va_E} {l : List (Nat × va_E)} (hq : q ∉ l.map Prod.fst) : va_up (ov h l) q (some e) = ov h (l ++ [(q, e)]) := by
  rw [ov_cat]
  show _ = ov (va_up h q (some e)) l
  rw [ov_upc hq]
theorem ov_new {h : Hp} {q : Nat} {l : List (Nat × va_E)} (hq : ∀ e, ov h l q ≠ some e) : q ∉ l.map Prod.fst ∧ ∀ e, h q ≠ some e := by
  have h1 : q ∉ l.map Prod.fst := fun c => by
    obtain ⟨e, he⟩ := ov_some (h := h) c
    exact hq e he
  exact ⟨h1, fun e he => hq e (by rw [ov_none h1]; exact he)⟩
/-- what was made: apart from one another, where nothing was -/
def NF (h : Hp) (a : Nat) (L : List (Nat × va_E)) : Prop := (a :: L.map Prod.fst).Nodup ∧ ∀ x ∈ L.map Prod.fst, ∀ e, h x ≠ some e
theorem NF.nil {h : Hp} {a : Nat} : NF h a [] := ⟨List.nodup_cons.mpr ⟨by simp, List.nodup_nil⟩, fun x hx => by cases hx⟩
theorem NF.cat {h : Hp} {a : Nat} {L T : List (Nat × va_E)} (hn : NF h a L) (h1 : (T.map Prod.fst).Nodup) (h2 : ∀ x ∈ T.map Prod.fst, x ≠ a ∧ x ∉ L.map Prod.fst ∧ ∀ e, h x ≠ some e) : NF h a (L ++ T) := by
  obtain ⟨n1, n2⟩ := hn
  unfold NF
  rw [List.map_append]
  refine ⟨?_, fun x hx => ?_⟩
  · rw [← List.cons_append]
    refine List.nodup_append.mpr ⟨n1, h1, fun x hx y hy e => ?_⟩
    subst e
    rcases List.mem_cons.mp hx with c | c
    · exact (h2 x hy).1 c
    · exact (h2 x hy).2.1 c
  · rcases List.mem_append.mp hx with c | c
    · exact n2 x c
    · exact (h2 x c).2.2
/-- an object was made at a: O its cell, T the cells it holds -/
def Mk (h : Hp) (a : Nat) (O : (Nat → Nat) → va_E) (T : (Nat → Nat) → List (Nat × va_E)) : QT := fun o h' => o = .inl none ∧ ∃ A : Nat → Nat, NF h a (T A) ∧ h' = ov h ((a, O A) :: T A)
def sA (A : Nat → Nat) (n : Nat) : Nat → Nat := fun i => A (n + i)
section
variable {g : GG} {M : MI} {d kc ks : Nat} {Q : QT} {pc : Nat} {ls st : List Value} {h : Hp} {ci kf a : Nat} {fs : List Value} {L : List (Nat × va_E)}
theorem pw_mkA {idx nn t0 : Nat} {n : Int32} {et : FieldType} {atype : ArrayType} {cA : ClassId} {a0 : vp_A} (dc1 : decode M.2.1 pc = .ok (.newarray atype, 2)) (dc2 : decode M.2.1 (pc + 2) = .ok (.putfield idx, 3)) (hl : FP M.1.cls idx ci kf (.array et) true) (hi : M.1.name = "<init>") (hty : newarray.typeOf atype = et) (ht : (tys g)[t0]? = some (cA, et)) (hw0 : Cond.arrayClass et ∈ gw) (ha : ∀ cA : ClassId, vp_cell cA a0 = arrV cA nn (fun _ => defaultValue et)) (hn : ¬ n < 0) (hN : n.toNatClampNeg = nn) (hby : nn * componentBytes et ≤ 536870912) (hlen : kf < fs.length) (hF : NF h a L)
    (k : ∀ q : Nat, NF h a (L ++ [(q, .inl (cA, a0))]) → PW g M d kc ks Q (pc + 2 + 3) ls st (ov h ((a, .inr (ci, fs.set kf (.ref q))) :: (L ++ [(q, .inl (cA, a0))])))) : PW g M d (kc + 1) (ks + nn) Q pc ls (.int n :: .ref a :: st) (ov h ((a, .inr (ci, fs)) :: L)) := by
  refine pw_newa dc1 hty ht hw0 ha hn hN hby (fun q hq => ?_)
  obtain ⟨h1, h2⟩ := ov_new hq
  rw [ov_app h1]
  have h3 : q ≠ a := fun c => h1 (by rw [c]; exact List.mem_cons_self)
  have h4 : q ∉ L.map Prod.fst := fun c => h1 (List.mem_cons_of_mem _ c)
  refine pw_putfF dc2 hl hi (fs := fs) up_same hlen rfl rfl ?_
  show PW g M d kc ks Q (pc + 2 + 3) ls st (va_up (va_up (ov h (L ++ [(q, _)])) a _) a _)
  rw [up_up]
  exact k q (hF.cat (T := [(q, .inl (cA, a0))]) (List.nodup_cons.mpr ⟨by simp, List.nodup_nil⟩) (fun x hx => by
    have : x = q := by simpa using hx
    subst this; exact ⟨h3, h4, h2⟩))
theorem pw_mkB {idx nn t0 : Nat} {n : Int32} {et : FieldType} {atype : ArrayType} {cA : ClassId} {a0 : vp_A} (dc1 : decode M.2.1 pc = .ok (.newarray atype, 2)) (dc2 : decode M.2.1 (pc + 2) = .ok (.putfield idx, 3)) (hl : FP M.1.cls idx ci kf (.array et) false) (hi : M.1.name = "<init>") (hty : newarray.typeOf atype = et) (ht : (tys g)[t0]? = some (cA, et)) (hw0 : Cond.arrayClass et ∈ gw) (ha : ∀ cA : ClassId, vp_cell cA a0 = arrV cA nn (fun _ => defaultValue et)) (hn : ¬ n < 0) (hN : n.toNatClampNeg = nn) (hby : nn * componentBytes et ≤ 536870912) (hlen : kf < fs.length) (hF : NF h a L)
    (k : ∀ q : Nat, NF h a (L ++ [(q, .inl (cA, a0))]) → PW g M d kc ks Q (pc + 2 + 3) ls st (ov h ((a, .inr (ci, fs.set kf (.ref q))) :: (L ++ [(q, .inl (cA, a0))])))) : PW g M d (kc + 1) (ks + nn) Q pc ls (.int n :: .ref a :: st) (ov h ((a, .inr (ci, fs)) :: L)) := by
  refine pw_newa dc1 hty ht hw0 ha hn hN hby (fun q hq => ?_)
  obtain ⟨h1, h2⟩ := ov_new hq
  rw [ov_app h1]
  have h3 : q ≠ a := fun c => h1 (by rw [c]; exact List.mem_cons_self)
  have h4 : q ∉ L.map Prod.fst := fun c => h1 (List.mem_cons_of_mem _ c)
  refine pw_putf dc2 hl (fs := fs) up_same hlen rfl rfl ?_
  show PW g M d kc ks Q (pc + 2 + 3) ls st (va_up (va_up (ov h (L ++ [(q, _)])) a _) a _)
  rw [up_up]
  exact k q (hF.cat (T := [(q, .inl (cA, a0))]) (List.nodup_cons.mpr ⟨by simp, List.nodup_nil⟩) (fun x hx => by
    have : x = q := by simpa using hx
    subst this; exact ⟨h3, h4, h2⟩))
theorem pw_mkI {idx : Nat} {v : Int32} {ty : FieldType} (dc : decode M.2.1 pc = .ok (.putfield idx, 3)) (hl : FP M.1.cls idx ci kf ty false) (hlen : kf < fs.length) (hn : narrow ty (.int v) = .int v) (hfit : fits ty (.int v) = true) (k : PW g M d kc ks Q (pc + 3) ls st (ov h ((a, .inr (ci, fs.set kf (.int v))) :: L))) : PW g M d kc ks Q pc ls (.int v :: .ref a :: st) (ov h ((a, .inr (ci, fs)) :: L)) := by
  refine pw_putf dc hl (fs := fs) up_same hlen hn hfit ?_
  show PW g M d kc ks Q (pc + 3) ls st (va_up (va_up (ov h L) a _) a _)
  rw [up_up]; exact k
theorem nox_Mk {O : (Nat → Nat) → va_E} {T : (Nat → Nat) → List (Nat × va_E)} : NoX (Mk h a O T) := by
  intro E h' q
  exact absurd q.1 (by simp)
theorem pw_mkO {i0 i2 i3 ci' N d' kc' ks' : Nat} {C C' : String} {M' : MI} {F : u_T} {ty : Nat → FieldType} {dfl : List Value} {O : (Nat → Nat) → va_E} {T : (Nat → Nat) → List (Nat × va_E)} (dc0 : decode M.2.1 pc = .ok (.new i0, 3)) (dc1 : decode M.2.1 (pc + 3) = .ok (.dup, 1)) (dc2 : decode M.2.1 (pc + 3 + 1) = .ok (.invokespecial i2, 3)) (dc3 : decode M.2.1 (pc + 3 + 1 + 3) = .ok (.putfield i3, 3))
    (hc : vcl[ci']? = some (C, F, N)) (hin : ∀ w ∈ u_ws C F N, w ∈ gw) (hty : ∀ k, k < N → parseFieldDescriptor (F k).2.2.1 = some (ty k)) (hcl : Cond.classLink M.1.cls i0 C ∈ gw) (hins : Cond.instantiable C N ∈ gw) (hini : Cond.initialized C ∈ gw) (hfs : ∀ j, j < N → defaultValue (ty j) = vp_V dfl j)
    (hl : LIN M.1.cls i2 M' 0) (hM : ∀ {h : Hp} {a : Nat}, h a = some (.inr (ci', dfl)) → PM g M' d' kc' ks' [.ref a] h (Mk h a O T)) (hd : d' + 1 ≤ d) (hsum : ((Value.ref a :: st).map fun v => v.category).sum ≤ 7)
    (hl3 : FP M.1.cls i3 ci kf (.object C') true) (hi : M.1.name = "<init>") (hlen : kf < fs.length) (hF : NF h a L)
    (k : ∀ (q : Nat) (A : Nat → Nat), NF h a (L ++ (q, O A) :: T A) → PW g M d kc ks Q (pc + 3 + 1 + 3 + 3) ls st (ov h ((a, .inr (ci, fs.set kf (.ref q))) :: (L ++ (q, O A) :: T A)))) : PW g M d (kc + kc' + 1) (ks + ks' + N) Q pc ls (.ref a :: st) (ov h ((a, .inr (ci, fs)) :: L)) := by
  refine pw_new dc0 hc hin hty hcl hins hini hfs (fun q hq => ?_)
  obtain ⟨h1, h2⟩ := ov_new hq
  have h3 : q ≠ a := fun c => h1 (by rw [c]; exact List.mem_cons_self)
  have h4 : q ∉ L.map Prod.fst := fun c => h1 (List.mem_cons_of_mem _ c)
  refine pw_dup dc1 rfl ?_
  refine pw_callIN (As := []) dc2 hl (hM up_same) rfl hd (by rw [List.map_cons, List.sum_cons]; exact Nat.add_le_add (Nat.le_refl 1) hsum) nox_Mk (fun v h' hq' => ?_)
  obtain ⟨hv, A, hA, rfl⟩ := hq'
  cases hv
  have hk1 : ∀ x ∈ (T A).map Prod.fst, x ≠ q ∧ x ≠ a ∧ x ∉ L.map Prod.fst ∧ ∀ e, h x ≠ some e := fun x hx => by
    obtain ⟨n1, n2⟩ := ov_new (h := va_up h q (some (.inr (ci', dfl)))) (l := (a, .inr (ci, fs)) :: L) (q := x) (by
      rw [ov_upc h1]; exact hA.2 x hx)
    have n3 : x ≠ q := fun c => by
      rw [c] at n2; exact n2 _ up_same
    exact ⟨n3, fun c => n1 (by rw [c]; exact List.mem_cons_self), fun c => n1 (List.mem_cons_of_mem _ c), fun e he => n2 e (up_ne n3 he)⟩
  have e1 : ov (va_up (ov h ((a, .inr (ci, fs)) :: L)) q (some (.inr (ci', dfl)))) ((q, O A) :: T A) = ov h ((a, .inr (ci, fs)) :: (L ++ (q, O A) :: T A)) := by
    rw [← ov_upc h1, ← List.cons_append, ov_cat, ov_com, ov_abs List.mem_cons_self]
    intro x hx hx2
    rcases List.mem_cons.mp hx2 with c | c
    · rw [show x = q from c] at hx; exact h1 hx
    · rcases List.mem_cons.mp hx with c' | c'
      · exact (hk1 x c).2.1 c'
      · exact (hk1 x c).2.2.1 c'
  rw [e1]
  refine pw_putfF dc3 hl3 hi (fs := fs) up_same hlen rfl rfl ?_
  show PW g M d kc ks Q (pc + 3 + 1 + 3 + 3) ls st (va_up (va_up (ov h (L ++ (q, O A) :: T A)) a _) a _)
  rw [up_up]
  exact k q A (hF.cat (T := (q, O A) :: T A) hA.1 (fun x hx => by
    rcases List.mem_cons.mp hx with c | c
    · have c' : x = q := c
      subst c'; exact ⟨h3, h4, h2⟩
    · exact (hk1 x c).2))
theorem pw_mkP {i0 i2 i3 ci' N d' kc' ks' : Nat} {C C' : String} {M' : MI} {F : u_T} {ty : Nat → FieldType} {dfl : List Value} {O : (Nat → Nat) → va_E} {T : (Nat → Nat) → List (Nat × va_E)} (dc0 : decode M.2.1 pc = .ok (.new i0, 3)) (dc1 : decode M.2.1 (pc + 3) = .ok (.dup, 1)) (dc2 : decode M.2.1 (pc + 3 + 1) = .ok (.invokespecial i2, 3)) (dc3 : decode M.2.1 (pc + 3 + 1 + 3) = .ok (.putfield i3, 3))
    (hc : vcl[ci']? = some (C, F, N)) (hin : ∀ w ∈ u_ws C F N, w ∈ gw) (hty : ∀ k, k < N → parseFieldDescriptor (F k).2.2.1 = some (ty k)) (hcl : Cond.classLink M.1.cls i0 C ∈ gw) (hins : Cond.instantiable C N ∈ gw) (hini : Cond.initialized C ∈ gw) (hfs : ∀ j, j < N → defaultValue (ty j) = vp_V dfl j)
    (hl : LIN M.1.cls i2 M' 0) (hM : ∀ {h : Hp} {a : Nat}, h a = some (.inr (ci', dfl)) → PM g M' d' kc' ks' [.ref a] h (Mk h a O T)) (hd : d' + 1 ≤ d) (hsum : ((Value.ref a :: st).map fun v => v.category).sum ≤ 7)
    (hl3 : FP M.1.cls i3 ci kf (.object C') false) (hi : M.1.name = "<init>") (hlen : kf < fs.length) (hF : NF h a L)
    (k : ∀ (q : Nat) (A : Nat → Nat), NF h a (L ++ (q, O A) :: T A) → PW g M d kc ks Q (pc + 3 + 1 + 3 + 3) ls st (ov h ((a, .inr (ci, fs.set kf (.ref q))) :: (L ++ (q, O A) :: T A)))) : PW g M d (kc + kc' + 1) (ks + ks' + N) Q pc ls (.ref a :: st) (ov h ((a, .inr (ci, fs)) :: L)) := by
  refine pw_new dc0 hc hin hty hcl hins hini hfs (fun q hq => ?_)
  obtain ⟨h1, h2⟩ := ov_new hq
  have h3 : q ≠ a := fun c => h1 (by rw [c]; exact List.mem_cons_self)
  have h4 : q ∉ L.map Prod.fst := fun c => h1 (List.mem_cons_of_mem _ c)
  refine pw_dup dc1 rfl ?_
  refine pw_callIN (As := []) dc2 hl (hM up_same) rfl hd (by rw [List.map_cons, List.sum_cons]; exact Nat.add_le_add (Nat.le_refl 1) hsum) nox_Mk (fun v h' hq' => ?_)
  obtain ⟨hv, A, hA, rfl⟩ := hq'
  cases hv
  have hk1 : ∀ x ∈ (T A).map Prod.fst, x ≠ q ∧ x ≠ a ∧ x ∉ L.map Prod.fst ∧ ∀ e, h x ≠ some e := fun x hx => by
    obtain ⟨n1, n2⟩ := ov_new (h := va_up h q (some (.inr (ci', dfl)))) (l := (a, .inr (ci, fs)) :: L) (q := x) (by
      rw [ov_upc h1]; exact hA.2 x hx)
    have n3 : x ≠ q := fun c => by
      rw [c] at n2; exact n2 _ up_same
    exact ⟨n3, fun c => n1 (by rw [c]; exact List.mem_cons_self), fun c => n1 (List.mem_cons_of_mem _ c), fun e he => n2 e (up_ne n3 he)⟩
  have e1 : ov (va_up (ov h ((a, .inr (ci, fs)) :: L)) q (some (.inr (ci', dfl)))) ((q, O A) :: T A) = ov h ((a, .inr (ci, fs)) :: (L ++ (q, O A) :: T A)) := by
    rw [← ov_upc h1, ← List.cons_append, ov_cat, ov_com, ov_abs List.mem_cons_self]
    intro x hx hx2
    rcases List.mem_cons.mp hx2 with c | c
    · rw [show x = q from c] at hx; exact h1 hx
    · rcases List.mem_cons.mp hx with c' | c'
      · exact (hk1 x c).2.1 c'
      · exact (hk1 x c).2.2.1 c'
  rw [e1]
  refine pw_putf dc3 hl3 (fs := fs) up_same hlen rfl rfl ?_
  show PW g M d kc ks Q (pc + 3 + 1 + 3 + 3) ls st (va_up (va_up (ov h (L ++ (q, O A) :: T A)) a _) a _)
  rw [up_up]
  exact k q A (hF.cat (T := (q, O A) :: T A) hA.1 (fun x hx => by
    rcases List.mem_cons.mp hx with c | c
    · have c' : x = q := c
      subst c'; exact ⟨h3, h4, h2⟩
    · exact (hk1 x c).2))
theorem pw_mkA1 {idx nn t0 : Nat} {n : Int32} {et : FieldType} {atype : ArrayType} {cA : ClassId} {a0 : vp_A} (fs1 : Nat → List Value) (L1 : Nat → List (Nat × va_E)) (dc1 : decode M.2.1 pc = .ok (.newarray atype, 2)) (dc2 : decode M.2.1 (pc + 2) = .ok (.putfield idx, 3)) (hl : FP M.1.cls idx ci kf (.array et) true) (hi : M.1.name = "<init>") (hty : newarray.typeOf atype = et) (ht : (tys g)[t0]? = some (cA, et)) (hw0 : Cond.arrayClass et ∈ gw) (ha : ∀ cA : ClassId, vp_cell cA a0 = arrV cA nn (fun _ => defaultValue et)) (hn : ¬ n < 0) (hN : n.toNatClampNeg = nn) (hby : nn * componentBytes et ≤ 536870912) (hlen : kf < fs.length) (hfs : ∀ q, fs.set kf (.ref q) = fs1 q) (hL : ∀ q, L ++ [(q, .inl (cA, a0))] = L1 q) (hF : NF h a L)
    (k : ∀ q : Nat, NF h a (L1 q) → PW g M d kc ks Q (pc + 2 + 3) ls st (ov h ((a, .inr (ci, fs1 q)) :: L1 q))) : PW g M d (kc + 1) (ks + nn) Q pc ls (.int n :: .ref a :: st) (ov h ((a, .inr (ci, fs)) :: L)) :=
  pw_mkA dc1 dc2 hl hi hty ht hw0 ha hn hN hby hlen hF (fun q hq => by rw [hfs, hL]; exact k q (by rw [← hL]; exact hq))
theorem pw_mkI1 {idx : Nat} {v : Int32} {ty : FieldType} (fs1 : List Value) (dc : decode M.2.1 pc = .ok (.putfield idx, 3)) (hl : FP M.1.cls idx ci kf ty false) (hlen : kf < fs.length) (hfs : fs.set kf (.int v) = fs1) (hn : narrow ty (.int v) = .int v) (hfit : fits ty (.int v) = true) (k : PW g M d kc ks Q (pc + 3) ls st (ov h ((a, .inr (ci, fs1)) :: L))) : PW g M d kc ks Q pc ls (.int v :: .ref a :: st) (ov h ((a, .inr (ci, fs)) :: L)) :=
  pw_mkI dc hl hlen hn hfit (by rw [hfs]; exact k)
theorem pw_mk0 {o : va_E} (ha : h a = some o) (k : PW g M d kc ks Q pc ls st (ov h ((a, o) :: []))) : PW g M d kc ks Q pc ls st h := by
  have e : ov h [(a, o)] = h := up_self ha
  rw [e] at k; exact k
theorem pw_mkF {idx q : Nat} {cell : va_E} {ty : FieldType} (dc : decode M.2.1 pc = .ok (.putfield idx, 3)) (hl : FP M.1.cls idx ci kf ty true) (hi : M.1.name = "<init>") (hn : narrow ty (.ref q) = .ref q) (hft : fits ty (.ref q) = true) (hlen : kf < fs.length) (hq : ∀ e, ov h ((a, .inr (ci, fs)) :: L) q ≠ some e) (hF : NF h a L)
    (k : NF h a (L ++ [(q, cell)]) → PW g M d kc ks Q (pc + 3) ls st (ov h ((a, .inr (ci, fs.set kf (.ref q))) :: (L ++ [(q, cell)])))) : PW g M d kc ks Q pc ls (.ref q :: .ref a :: st) (va_up (ov h ((a, .inr (ci, fs)) :: L)) q (some cell)) := by
  obtain ⟨h1, h2⟩ := ov_new hq
  rw [ov_app h1]
  have h3 : q ≠ a := fun c => h1 (by rw [c]; exact List.mem_cons_self)
  have h4 : q ∉ L.map Prod.fst := fun c => h1 (List.mem_cons_of_mem _ c)
  refine pw_putfF dc hl hi (fs := fs) up_same hlen hn hft ?_
  show PW g M d kc ks Q (pc + 3) ls st (va_up (va_up (ov h (L ++ [(q, _)])) a _) a _)
  rw [up_up]
  exact k (hF.cat (T := [(q, cell)]) (List.nodup_cons.mpr ⟨by simp, List.nodup_nil⟩) (fun x hx => by
    have : x = q := by simpa using hx
    subst this; exact ⟨h3, h4, h2⟩))
end
def O_State (g : GG) (A : Nat → Nat) : va_E := .inr (8, [.ref (A 0)])
def T_State (g : GG) (A : Nat → Nat) : List (Nat × va_E) := ([] ++ ([(A 0, aI g 225 (fun _ => 0))]))
set_option maxRecDepth 8000 in
theorem q_State_init {g : GG} {h : Hp} {a : Nat} (hst : (gl g).stackTraces = false) (ha : h a = some (.inr (8, [.null]))) : PM g M_State_init 1 1 225 [.ref a] h (Mk h a (O_State g) (T_State g)) := by
  refine PM.of hst (by decide) rfl (fun v hv => ?_) (Nat.le_of_ble_eq_true rfl) ?_
  · simp only [List.mem_cons, List.not_mem_nil, or_false] at hv; rcases hv with rfl <;> rfl
  · refine pw_mk0 ha ?_
    have hF0 : NF h a [] := NF.nil
    refine pw_aload_n e_State_init_0 rfl ?_
    refine pw_objInit e_State_init_1 oi_State_3 (by decide) (by decide) ?_
    refine pw_aload_n e_State_init_4 rfl ?_
    refine pw_sipush (v := nI 225) e_State_init_5 (by decide) ?_
    refine pw_mkA (kc := 0) (ks := 0) (nn := 225) (t0 := 0) (a0 := (225, .inl (fun _ => 0))) (atype := .int) e_State_init_8 e_State_init_10 fp_State_9 rfl rfl rfl ac_int (fun _ => rfl) (by decide) (nI_clamp (by decide)) (by decide) (Nat.le_of_ble_eq_true rfl) hF0 (fun q0 hF1 => ?_)
    refine pw_vret e_State_init_13 rfl ?_
    exact ⟨rfl, fun i => if i < 1 then q0 else 0, hF1, rfl⟩
def O_History (g : GG) (A : Nat → Nat) : va_E := .inr (0, [.int (0), .int (0), .ref (A 0)])
def T_History (g : GG) (A : Nat → Nat) : List (Nat × va_E) := ([] ++ ([(A 0, stA g (fun _ => none))]))
set_option maxRecDepth 8000 in
theorem q_History_init {g : GG} {h : Hp} {a : Nat} (hst : (gl g).stackTraces = false) (ha : h a = some (.inr (0, [.int 0, .int 0, .null]))) : PM g M_History_init 1 1 40 [.ref a] h (Mk h a (O_History g) (T_History g)) := by
  refine PM.of hst (by decide) rfl (fun v hv => ?_) (Nat.le_of_ble_eq_true rfl) ?_
  · simp only [List.mem_cons, List.not_mem_nil, or_false] at hv; rcases hv with rfl <;> rfl
  · refine pw_mk0 ha ?_
    have hF0 : NF h a [] := NF.nil
    refine pw_aload_n e_History_init_0 rfl ?_
    refine pw_objInit e_History_init_1 oi_History_3 (by decide) (by decide) ?_
    refine pw_aload_n e_History_init_4 rfl ?_
    refine pw_iconst (v := nI 0) e_History_init_5 (by decide) ?_
    refine pw_mkI e_History_init_6 fp_History_9 (Nat.le_of_ble_eq_true rfl) rfl rfl ?_
    refine pw_aload_n e_History_init_9 rfl ?_
    refine pw_iconst (v := nI 0) e_History_init_10 (by decide) ?_
    refine pw_mkI e_History_init_11 fp_History_15 (Nat.le_of_ble_eq_true rfl) rfl rfl ?_
    refine pw_aload_n e_History_init_14 rfl ?_
    refine pw_bipush (v := nI 40) e_History_init_15 (by decide) ?_
    refine pw_anew (kc := 0) (ks := 0) (N' := 40) e_History_init_17 cl_History_18 (by decide) (nI_clamp (by decide)) (by decide) (fun q0 hq0 => ?_)
    refine pw_mkF e_History_init_20 fp_History_20 rfl rfl rfl (Nat.le_of_ble_eq_true rfl) hq0 hF0 (fun hF1 => ?_)
    refine pw_vret e_History_init_23 rfl ?_
    exact ⟨rfl, fun i => if i < 1 then q0 else 0, hF1, rfl⟩
def O_Noted (g : GG) (A : Nat → Nat) : va_E := .inr (4, [.int (0), .ref (A 0), .ref (A 1), .ref (A 2)])
def T_Noted (g : GG) (A : Nat → Nat) : List (Nat × va_E) := ((([] ++ ([(A 0, aI g 6 (fun _ => 0))])) ++ ([(A 1, aI g 6 (fun _ => 0))])) ++ ([(A 2, aI g 6 (fun _ => 0))]))
set_option maxRecDepth 8000 in
theorem q_Noted_init {g : GG} {h : Hp} {a : Nat} (hst : (gl g).stackTraces = false) (ha : h a = some (.inr (4, [.int 0, .null, .null, .null]))) : PM g M_Noted_init 1 3 18 [.ref a] h (Mk h a (O_Noted g) (T_Noted g)) := by
  refine PM.of hst (by decide) rfl (fun v hv => ?_) (Nat.le_of_ble_eq_true rfl) ?_
  · simp only [List.mem_cons, List.not_mem_nil, or_false] at hv; rcases hv with rfl <;> rfl
  · refine pw_mk0 ha ?_
    have hF0 : NF h a [] := NF.nil
    refine pw_aload_n e_Noted_init_0 rfl ?_
    refine pw_objInit e_Noted_init_1 oi_Noted_3 (by decide) (by decide) ?_
    refine pw_aload_n e_Noted_init_4 rfl ?_
    refine pw_iconst (v := nI 0) e_Noted_init_5 (by decide) ?_
    refine pw_mkI e_Noted_init_6 fp_Noted_9 (Nat.le_of_ble_eq_true rfl) rfl rfl ?_
    refine pw_aload_n e_Noted_init_9 rfl ?_
    refine pw_bipush (v := nI 6) e_Noted_init_10 (by decide) ?_
    refine pw_mkA (kc := 2) (ks := 12) (nn := 6) (t0 := 0) (a0 := (6, .inl (fun _ => 0))) (atype := .int) e_Noted_init_12 e_Noted_init_14 fp_Noted_15 rfl rfl rfl ac_int (fun _ => rfl) (by decide) (nI_clamp (by decide)) (by decide) (Nat.le_of_ble_eq_true rfl) hF0 (fun q0 hF1 => ?_)
    refine pw_aload_n e_Noted_init_17 rfl ?_
    refine pw_bipush (v := nI 6) e_Noted_init_18 (by decide) ?_
    refine pw_mkA (kc := 1) (ks := 6) (nn := 6) (t0 := 0) (a0 := (6, .inl (fun _ => 0))) (atype := .int) e_Noted_init_20 e_Noted_init_22 fp_Noted_19 rfl rfl rfl ac_int (fun _ => rfl) (by decide) (nI_clamp (by decide)) (by decide) (Nat.le_of_ble_eq_true rfl) hF1 (fun q1 hF2 => ?_)
    refine pw_aload_n e_Noted_init_25 rfl ?_
    refine pw_bipush (v := nI 6) e_Noted_init_26 (by decide) ?_
    refine pw_mkA (kc := 0) (ks := 0) (nn := 6) (t0 := 0) (a0 := (6, .inl (fun _ => 0))) (atype := .int) e_Noted_init_28 e_Noted_init_30 fp_Noted_22 rfl rfl rfl ac_int (fun _ => rfl) (by decide) (nI_clamp (by decide)) (by decide) (Nat.le_of_ble_eq_true rfl) hF2 (fun q2 hF3 => ?_)
    refine pw_vret e_Noted_init_33 rfl ?_
    exact ⟨rfl, fun i => if i < 1 then q0 else if i < 2 then q1 else if i < 3 then q2 else 0, hF3, rfl⟩
def O_Memory (g : GG) (A : Nat → Nat) : va_E := .inr (3, [.ref (A 0), .ref (A 2), .ref (A 4), .ref (A 8)])
def T_Memory (g : GG) (A : Nat → Nat) : List (Nat × va_E) := (((([] ++ ((A 0, O_State g (sA A 1)) :: T_State g (sA A 1))) ++ ((A 2, O_History g (sA A 3)) :: T_History g (sA A 3))) ++ ((A 4, O_Noted g (sA A 5)) :: T_Noted g (sA A 5))) ++ ([(A 8, aI g 3 (fun _ => 0))]))
set_option maxRecDepth 8000 in
theorem q_Memory_init {g : GG} {h : Hp} {a : Nat} (hst : (gl g).stackTraces = false) (ha : h a = some (.inr (3, [.null, .null, .null, .null]))) : PM g M_Memory_init 2 9 294 [.ref a] h (Mk h a (O_Memory g) (T_Memory g)) := by
  refine PM.of hst (by decide) rfl (fun v hv => ?_) (Nat.le_of_ble_eq_true rfl) ?_
  · simp only [List.mem_cons, List.not_mem_nil, or_false] at hv; rcases hv with rfl <;> rfl
  · refine pw_mk0 ha ?_
    have hF0 : NF h a [] := NF.nil
    refine pw_aload_n e_Memory_init_0 rfl ?_
    refine pw_objInit e_Memory_init_1 oi_Memory_3 (by decide) (by decide) ?_
    refine pw_aload_n e_Memory_init_4 rfl ?_
    refine pw_mkO (kc := 7) (ks := 68) (kc' := 1) (ks' := 225) (N := 1) (dfl := [.null]) (O := O_State g) (T := T_State g) e_Memory_init_5 e_Memory_init_8 e_Memory_init_9 e_Memory_init_12 rfl i_State t_State_ok cl_Memory_9 in_State ini_State (by decide +kernel) li_Memory_11 (fun ha => q_State_init hst ha) (by decide) (Nat.le_of_ble_eq_true rfl) fp_Memory_12 rfl (Nat.le_of_ble_eq_true rfl) hF0 (fun q0 B0 hF1 => ?_)
    refine pw_aload_n e_Memory_init_15 rfl ?_
    refine pw_mkO (kc := 5) (ks := 25) (kc' := 1) (ks' := 40) (N := 3) (dfl := [.int 0, .int 0, .null]) (O := O_History g) (T := T_History g) e_Memory_init_16 e_Memory_init_19 e_Memory_init_20 e_Memory_init_23 rfl i_History t_History_ok cl_Memory_18 in_History ini_History (by decide +kernel) li_Memory_20 (fun ha => q_History_init hst ha) (by decide) (Nat.le_of_ble_eq_true rfl) fp_Memory_21 rfl (Nat.le_of_ble_eq_true rfl) hF1 (fun q2 B2 hF2 => ?_)
    refine pw_aload_n e_Memory_init_26 rfl ?_
    refine pw_mkO (kc := 1) (ks := 3) (kc' := 3) (ks' := 18) (N := 4) (dfl := [.int 0, .null, .null, .null]) (O := O_Noted g) (T := T_Noted g) e_Memory_init_27 e_Memory_init_30 e_Memory_init_31 e_Memory_init_34 rfl i_Noted t_Noted_ok cl_Memory_25 in_Noted ini_Noted (by decide +kernel) li_Memory_27 (fun ha => q_Noted_init hst ha) (by decide) (Nat.le_of_ble_eq_true rfl) fp_Memory_28 rfl (Nat.le_of_ble_eq_true rfl) hF2 (fun q4 B4 hF3 => ?_)
    refine pw_aload_n e_Memory_init_37 rfl ?_
    refine pw_iconst (v := nI 3) e_Memory_init_38 (by decide) ?_
    refine pw_mkA (kc := 0) (ks := 0) (nn := 3) (t0 := 0) (a0 := (3, .inl (fun _ => 0))) (atype := .int) e_Memory_init_39 e_Memory_init_41 fp_Memory_32 rfl rfl rfl ac_int (fun _ => rfl) (by decide) (nI_clamp (by decide)) (by decide) (Nat.le_of_ble_eq_true rfl) hF3 (fun q8 hF4 => ?_)
    refine pw_vret e_Memory_init_44 rfl ?_
    exact ⟨rfl, fun i => if i < 1 then q0 else if i < 2 then B0 (i - 1) else if i < 3 then q2 else if i < 4 then B2 (i - 3) else if i < 5 then q4 else if i < 8 then B4 (i - 5) else if i < 9 then q8 else 0, hF4, rfl⟩
def O_Links (g : GG) (A : Nat → Nat) : va_E := .inr (2, [.int (0), .ref (A 0), .ref (A 1), .ref (A 2)])
def T_Links (g : GG) (A : Nat → Nat) : List (Nat × va_E) := ((([] ++ ([(A 0, aI g 12 (fun _ => 0))])) ++ ([(A 1, aI g 12 (fun _ => 0))])) ++ ([(A 2, aI g 12 (fun _ => 0))]))
set_option maxRecDepth 8000 in
theorem q_Links_init {g : GG} {h : Hp} {a : Nat} (hst : (gl g).stackTraces = false) (ha : h a = some (.inr (2, [.int 0, .null, .null, .null]))) : PM g M_Links_init 1 3 36 [.ref a] h (Mk h a (O_Links g) (T_Links g)) := by
  refine PM.of hst (by decide) rfl (fun v hv => ?_) (Nat.le_of_ble_eq_true rfl) ?_
  · simp only [List.mem_cons, List.not_mem_nil, or_false] at hv; rcases hv with rfl <;> rfl
  · refine pw_mk0 ha ?_
    have hF0 : NF h a [] := NF.nil
    refine pw_aload_n e_Links_init_0 rfl ?_
    refine pw_objInit e_Links_init_1 oi_Links_3 (by decide) (by decide) ?_
    refine pw_aload_n e_Links_init_4 rfl ?_
    refine pw_iconst (v := nI 0) e_Links_init_5 (by decide) ?_
    refine pw_mkI e_Links_init_6 fp_Links_9 (Nat.le_of_ble_eq_true rfl) rfl rfl ?_
    refine pw_aload_n e_Links_init_9 rfl ?_
    refine pw_bipush (v := nI 12) e_Links_init_10 (by decide) ?_
    refine pw_mkA (kc := 2) (ks := 24) (nn := 12) (t0 := 0) (a0 := (12, .inl (fun _ => 0))) (atype := .int) e_Links_init_12 e_Links_init_14 fp_Links_15 rfl rfl rfl ac_int (fun _ => rfl) (by decide) (nI_clamp (by decide)) (by decide) (Nat.le_of_ble_eq_true rfl) hF0 (fun q0 hF1 => ?_)
    refine pw_aload_n e_Links_init_17 rfl ?_
    refine pw_bipush (v := nI 12) e_Links_init_18 (by decide) ?_
    refine pw_mkA (kc := 1) (ks := 12) (nn := 12) (t0 := 0) (a0 := (12, .inl (fun _ => 0))) (atype := .int) e_Links_init_20 e_Links_init_22 fp_Links_19 rfl rfl rfl ac_int (fun _ => rfl) (by decide) (nI_clamp (by decide)) (by decide) (Nat.le_of_ble_eq_true rfl) hF1 (fun q1 hF2 => ?_)
    refine pw_aload_n e_Links_init_25 rfl ?_
    refine pw_bipush (v := nI 12) e_Links_init_26 (by decide) ?_
    refine pw_mkA (kc := 0) (ks := 0) (nn := 12) (t0 := 0) (a0 := (12, .inl (fun _ => 0))) (atype := .int) e_Links_init_28 e_Links_init_30 fp_Links_22 rfl rfl rfl ac_int (fun _ => rfl) (by decide) (nI_clamp (by decide)) (by decide) (Nat.le_of_ble_eq_true rfl) hF2 (fun q2 hF3 => ?_)
    refine pw_vret e_Links_init_33 rfl ?_
    exact ⟨rfl, fun i => if i < 1 then q0 else if i < 2 then q1 else if i < 3 then q2 else 0, hF3, rfl⟩
def O_Plants (g : GG) (A : Nat → Nat) : va_E := .inr (6, [.ref (A 0), .ref (A 1), .ref (A 2)])
def T_Plants (g : GG) (A : Nat → Nat) : List (Nat × va_E) := ((([] ++ ([(A 0, aI g 4 (upd (upd (upd (upd (fun _ => 0) 0 (-1)) 1 (-1)) 2 (-1)) 3 (-1)))])) ++ ([(A 1, aI g 4 (fun _ => 0))])) ++ ([(A 2, aI g 4 (fun _ => 0))]))
set_option maxRecDepth 8000 in
theorem q_Plants_init {g : GG} {h : Hp} {a : Nat} (hst : (gl g).stackTraces = false) (ha : h a = some (.inr (6, [.null, .null, .null]))) : PM g M_Plants_init 1 3 12 [.ref a] h (Mk h a (O_Plants g) (T_Plants g)) := by
  refine PM.of hst (by decide) rfl (fun v hv => ?_) (Nat.le_of_ble_eq_true rfl) ?_
  · simp only [List.mem_cons, List.not_mem_nil, or_false] at hv; rcases hv with rfl <;> rfl
  · refine pw_mk0 ha ?_
    have hF0 : NF h a [] := NF.nil
    refine pw_aload_n e_Plants_init_0 rfl ?_
    refine pw_objInit e_Plants_init_1 oi_Plants_3 (by decide) (by decide) ?_
    refine pw_aload_n e_Plants_init_4 rfl ?_
    refine pw_iconst (v := nI 4) e_Plants_init_5 (by decide) ?_
    refine pw_newa (kc := 2) (ks := 8) (N' := 4) (t0 := 0) (a0 := (4, .inl (fun _ => 0))) (atype := .int) e_Plants_init_6 rfl rfl ac_int (fun _ => rfl) (by decide) (nI_clamp (by decide)) (by decide) (fun q0 hq0 => ?_)
    refine pw_dup e_Plants_init_8 rfl ?_
    refine pw_iconst (v := nI 0) e_Plants_init_9 (by decide) ?_
    refine pw_iconst (v := (-1)) e_Plants_init_10 (by decide) ?_
    refine pw_iastU e_Plants_init_11 (by decide) (by decide) ?_
    refine pw_dup e_Plants_init_12 rfl ?_
    refine pw_iconst (v := nI 1) e_Plants_init_13 (by decide) ?_
    refine pw_iconst (v := (-1)) e_Plants_init_14 (by decide) ?_
    refine pw_iastU e_Plants_init_15 (by decide) (by decide) ?_
    refine pw_dup e_Plants_init_16 rfl ?_
    refine pw_iconst (v := nI 2) e_Plants_init_17 (by decide) ?_
    refine pw_iconst (v := (-1)) e_Plants_init_18 (by decide) ?_
    refine pw_iastU e_Plants_init_19 (by decide) (by decide) ?_
    refine pw_dup e_Plants_init_20 rfl ?_
    refine pw_iconst (v := nI 3) e_Plants_init_21 (by decide) ?_
    refine pw_iconst (v := (-1)) e_Plants_init_22 (by decide) ?_
    refine pw_iastU e_Plants_init_23 (by decide) (by decide) ?_
    refine pw_mkF e_Plants_init_24 fp_Plants_9 rfl rfl rfl (Nat.le_of_ble_eq_true rfl) hq0 hF0 (fun hF1 => ?_)
    refine pw_aload_n e_Plants_init_27 rfl ?_
    refine pw_iconst (v := nI 4) e_Plants_init_28 (by decide) ?_
    refine pw_mkA (kc := 1) (ks := 4) (nn := 4) (t0 := 0) (a0 := (4, .inl (fun _ => 0))) (atype := .int) e_Plants_init_29 e_Plants_init_31 fp_Plants_15 rfl rfl rfl ac_int (fun _ => rfl) (by decide) (nI_clamp (by decide)) (by decide) (Nat.le_of_ble_eq_true rfl) hF1 (fun q1 hF2 => ?_)
    refine pw_aload_n e_Plants_init_34 rfl ?_
    refine pw_iconst (v := nI 4) e_Plants_init_35 (by decide) ?_
    refine pw_mkA (kc := 0) (ks := 0) (nn := 4) (t0 := 0) (a0 := (4, .inl (fun _ => 0))) (atype := .int) e_Plants_init_36 e_Plants_init_38 fp_Plants_18 rfl rfl rfl ac_int (fun _ => rfl) (by decide) (nI_clamp (by decide)) (by decide) (Nat.le_of_ble_eq_true rfl) hF2 (fun q2 hF3 => ?_)
    refine pw_vret e_Plants_init_41 rfl ?_
    exact ⟨rfl, fun i => if i < 1 then q0 else if i < 2 then q1 else if i < 3 then q2 else 0, hF3, rfl⟩
def O_Layout (g : GG) (A : Nat → Nat) : va_E := .inr (1, [.int (0), .int (0), .int (0), .ref (A 0), .ref (A 1), .ref (A 2), .ref (A 3), .ref (A 4), .ref (A 5), .ref (A 6)])
def T_Layout (g : GG) (A : Nat → Nat) : List (Nat × va_E) := ((((((([] ++ ([(A 0, aI g 10 (fun _ => 0))])) ++ ([(A 1, aI g 10 (fun _ => 0))])) ++ ([(A 2, aI g 10 (fun _ => 0))])) ++ ([(A 3, aI g 10 (fun _ => 0))])) ++ ([(A 4, aI g 12 (fun _ => 0))])) ++ ([(A 5, aI g 12 (fun _ => 0))])) ++ ([(A 6, aI g 5 (fun _ => 0))]))
set_option maxRecDepth 8000 in
theorem q_Layout_init {g : GG} {h : Hp} {a : Nat} (hst : (gl g).stackTraces = false) (ha : h a = some (.inr (1, [.int 0, .int 0, .int 0, .null, .null, .null, .null, .null, .null, .null]))) : PM g M_Layout_init 1 7 69 [.ref a] h (Mk h a (O_Layout g) (T_Layout g)) := by
  refine PM.of hst (by decide) rfl (fun v hv => ?_) (Nat.le_of_ble_eq_true rfl) ?_
  · simp only [List.mem_cons, List.not_mem_nil, or_false] at hv; rcases hv with rfl <;> rfl
  · refine pw_mk0 ha ?_
    have hF0 : NF h a [] := NF.nil
    refine pw_aload_n e_Layout_init_0 rfl ?_
    refine pw_objInit e_Layout_init_1 oi_Layout_3 (by decide) (by decide) ?_
    refine pw_aload_n e_Layout_init_4 rfl ?_
    refine pw_iconst (v := nI 0) e_Layout_init_5 (by decide) ?_
    refine pw_mkI e_Layout_init_6 fp_Layout_9 (Nat.le_of_ble_eq_true rfl) rfl rfl ?_
    refine pw_aload_n e_Layout_init_9 rfl ?_
    refine pw_iconst (v := nI 0) e_Layout_init_10 (by decide) ?_
    refine pw_mkI e_Layout_init_11 fp_Layout_15 (Nat.le_of_ble_eq_true rfl) rfl rfl ?_
    refine pw_aload_n e_Layout_init_14 rfl ?_
    refine pw_iconst (v := nI 0) e_Layout_init_15 (by decide) ?_
    refine pw_mkI e_Layout_init_16 fp_Layout_18 (Nat.le_of_ble_eq_true rfl) rfl rfl ?_
    refine pw_aload_n e_Layout_init_19 rfl ?_
    refine pw_bipush (v := nI 10) e_Layout_init_20 (by decide) ?_
    refine pw_mkA (kc := 6) (ks := 59) (nn := 10) (t0 := 0) (a0 := (10, .inl (fun _ => 0))) (atype := .int) e_Layout_init_22 e_Layout_init_24 fp_Layout_21 rfl rfl rfl ac_int (fun _ => rfl) (by decide) (nI_clamp (by decide)) (by decide) (Nat.le_of_ble_eq_true rfl) hF0 (fun q0 hF1 => ?_)
    refine pw_aload_n e_Layout_init_27 rfl ?_
    refine pw_bipush (v := nI 10) e_Layout_init_28 (by decide) ?_
    refine pw_mkA (kc := 5) (ks := 49) (nn := 10) (t0 := 0) (a0 := (10, .inl (fun _ => 0))) (atype := .int) e_Layout_init_30 e_Layout_init_32 fp_Layout_25 rfl rfl rfl ac_int (fun _ => rfl) (by decide) (nI_clamp (by decide)) (by decide) (Nat.le_of_ble_eq_true rfl) hF1 (fun q1 hF2 => ?_)
    refine pw_aload_n e_Layout_init_35 rfl ?_
    refine pw_bipush (v := nI 10) e_Layout_init_36 (by decide) ?_
    refine pw_mkA (kc := 4) (ks := 39) (nn := 10) (t0 := 0) (a0 := (10, .inl (fun _ => 0))) (atype := .int) e_Layout_init_38 e_Layout_init_40 fp_Layout_28 rfl rfl rfl ac_int (fun _ => rfl) (by decide) (nI_clamp (by decide)) (by decide) (Nat.le_of_ble_eq_true rfl) hF2 (fun q2 hF3 => ?_)
    refine pw_aload_n e_Layout_init_43 rfl ?_
    refine pw_bipush (v := nI 10) e_Layout_init_44 (by decide) ?_
    refine pw_mkA (kc := 3) (ks := 29) (nn := 10) (t0 := 0) (a0 := (10, .inl (fun _ => 0))) (atype := .int) e_Layout_init_46 e_Layout_init_48 fp_Layout_31 rfl rfl rfl ac_int (fun _ => rfl) (by decide) (nI_clamp (by decide)) (by decide) (Nat.le_of_ble_eq_true rfl) hF3 (fun q3 hF4 => ?_)
    refine pw_aload_n e_Layout_init_51 rfl ?_
    refine pw_bipush (v := nI 12) e_Layout_init_52 (by decide) ?_
    refine pw_mkA (kc := 2) (ks := 17) (nn := 12) (t0 := 0) (a0 := (12, .inl (fun _ => 0))) (atype := .int) e_Layout_init_54 e_Layout_init_56 fp_Layout_34 rfl rfl rfl ac_int (fun _ => rfl) (by decide) (nI_clamp (by decide)) (by decide) (Nat.le_of_ble_eq_true rfl) hF4 (fun q4 hF5 => ?_)
    refine pw_aload_n e_Layout_init_59 rfl ?_
    refine pw_bipush (v := nI 12) e_Layout_init_60 (by decide) ?_
    refine pw_mkA (kc := 1) (ks := 5) (nn := 12) (t0 := 0) (a0 := (12, .inl (fun _ => 0))) (atype := .int) e_Layout_init_62 e_Layout_init_64 fp_Layout_37 rfl rfl rfl ac_int (fun _ => rfl) (by decide) (nI_clamp (by decide)) (by decide) (Nat.le_of_ble_eq_true rfl) hF5 (fun q5 hF6 => ?_)
    refine pw_aload_n e_Layout_init_67 rfl ?_
    refine pw_iconst (v := nI 5) e_Layout_init_68 (by decide) ?_
    refine pw_mkA (kc := 0) (ks := 0) (nn := 5) (t0 := 0) (a0 := (5, .inl (fun _ => 0))) (atype := .int) e_Layout_init_69 e_Layout_init_71 fp_Layout_40 rfl rfl rfl ac_int (fun _ => rfl) (by decide) (nI_clamp (by decide)) (by decide) (Nat.le_of_ble_eq_true rfl) hF6 (fun q6 hF7 => ?_)
    refine pw_vret e_Layout_init_74 rfl ?_
    exact ⟨rfl, fun i => if i < 1 then q0 else if i < 2 then q1 else if i < 3 then q2 else if i < 4 then q3 else if i < 5 then q4 else if i < 6 then q5 else if i < 7 then q6 else 0, hF7, rfl⟩
def O_Plan (g : GG) (A : Nat → Nat) : va_E := .inr (5, [.int (2), .int (3), .int (2), .int (0), .ref (A 0), .ref (A 1), .ref (A 2), .ref (A 3), .ref (A 4), .ref (A 5), .ref (A 6), .ref (A 7), .ref (A 8), .ref (A 9), .ref (A 10), .ref (A 11), .ref (A 12), .ref (A 16), .ref (A 20)])
def T_Plan (g : GG) (A : Nat → Nat) : List (Nat × va_E) := ((((((((((((((([] ++ ([(A 0, aI g 10 (fun _ => 0))])) ++ ([(A 1, aI g 10 (fun _ => 0))])) ++ ([(A 2, aI g 10 (fun _ => 0))])) ++ ([(A 3, aI g 10 (fun _ => 0))])) ++ ([(A 4, aI g 10 (fun _ => 0))])) ++ ([(A 5, aI g 10 (fun _ => 0))])) ++ ([(A 6, aI g 10 (fun _ => 0))])) ++ ([(A 7, aI g 10 (fun _ => 0))])) ++ ([(A 8, aZ g 10 (fun _ => 0))])) ++ ([(A 9, aZ g 10 (fun _ => 0))])) ++ ([(A 10, aI g 30 (fun _ => 0))])) ++ ([(A 11, aI g 10 (fun _ => 0))])) ++ ((A 12, O_Links g (sA A 13)) :: T_Links g (sA A 13))) ++ ((A 16, O_Plants g (sA A 17)) :: T_Plants g (sA A 17))) ++ ((A 20, O_Layout g (sA A 21)) :: T_Layout g (sA A 21)))
set_option maxRecDepth 8000 in
theorem q_Plan_init {g : GG} {h : Hp} {a : Nat} (hst : (gl g).stackTraces = false) (ha : h a = some (.inr (5, [.int 0, .int 0, .int 0, .int 0, .null, .null, .null, .null, .null, .null, .null, .null, .null, .null, .null, .null, .null, .null, .null]))) : PM g M_Plan_init 2 28 274 [.ref a] h (Mk h a (O_Plan g) (T_Plan g)) := by
  refine PM.of hst (by decide) rfl (fun v hv => ?_) (Nat.le_of_ble_eq_true rfl) ?_
  · simp only [List.mem_cons, List.not_mem_nil, or_false] at hv; rcases hv with rfl <;> rfl
  · refine pw_mk0 ha ?_
    have hF0 : NF h a [] := NF.nil
    refine pw_aload_n e_Plan_init_0 rfl ?_
    refine pw_objInit e_Plan_init_1 oi_Plan_3 (by decide) (by decide) ?_
    refine pw_aload_n e_Plan_init_4 rfl ?_
    refine pw_iconst (v := nI 2) e_Plan_init_5 (by decide) ?_
    refine pw_mkI e_Plan_init_6 fp_Plan_9 (Nat.le_of_ble_eq_true rfl) rfl rfl ?_
    refine pw_aload_n e_Plan_init_9 rfl ?_
    refine pw_iconst (v := nI 3) e_Plan_init_10 (by decide) ?_
    refine pw_mkI e_Plan_init_11 fp_Plan_15 (Nat.le_of_ble_eq_true rfl) rfl rfl ?_
    refine pw_aload_n e_Plan_init_14 rfl ?_
    refine pw_iconst (v := nI 2) e_Plan_init_15 (by decide) ?_
    refine pw_mkI e_Plan_init_16 fp_Plan_18 (Nat.le_of_ble_eq_true rfl) rfl rfl ?_
    refine pw_aload_n e_Plan_init_19 rfl ?_
    refine pw_iconst (v := nI 0) e_Plan_init_20 (by decide) ?_
    refine pw_mkI e_Plan_init_21 fp_Plan_21 (Nat.le_of_ble_eq_true rfl) rfl rfl ?_
    refine pw_aload_n e_Plan_init_24 rfl ?_
    refine pw_bipush (v := nI 10) e_Plan_init_25 (by decide) ?_
    refine pw_mkA (kc := 27) (ks := 264) (nn := 10) (t0 := 0) (a0 := (10, .inl (fun _ => 0))) (atype := .int) e_Plan_init_27 e_Plan_init_29 fp_Plan_24 rfl rfl rfl ac_int (fun _ => rfl) (by decide) (nI_clamp (by decide)) (by decide) (Nat.le_of_ble_eq_true rfl) hF0 (fun q0 hF1 => ?_)
    refine pw_aload_n e_Plan_init_32 rfl ?_
    refine pw_bipush (v := nI 10) e_Plan_init_33 (by decide) ?_
    refine pw_mkA (kc := 26) (ks := 254) (nn := 10) (t0 := 0) (a0 := (10, .inl (fun _ => 0))) (atype := .int) e_Plan_init_35 e_Plan_init_37 fp_Plan_28 rfl rfl rfl ac_int (fun _ => rfl) (by decide) (nI_clamp (by decide)) (by decide) (Nat.le_of_ble_eq_true rfl) hF1 (fun q1 hF2 => ?_)
    refine pw_aload_n e_Plan_init_40 rfl ?_
    refine pw_bipush (v := nI 10) e_Plan_init_41 (by decide) ?_
    refine pw_mkA (kc := 25) (ks := 244) (nn := 10) (t0 := 0) (a0 := (10, .inl (fun _ => 0))) (atype := .int) e_Plan_init_43 e_Plan_init_45 fp_Plan_31 rfl rfl rfl ac_int (fun _ => rfl) (by decide) (nI_clamp (by decide)) (by decide) (Nat.le_of_ble_eq_true rfl) hF2 (fun q2 hF3 => ?_)
    refine pw_aload_n e_Plan_init_48 rfl ?_
    refine pw_bipush (v := nI 10) e_Plan_init_49 (by decide) ?_
    refine pw_mkA (kc := 24) (ks := 234) (nn := 10) (t0 := 0) (a0 := (10, .inl (fun _ => 0))) (atype := .int) e_Plan_init_51 e_Plan_init_53 fp_Plan_34 rfl rfl rfl ac_int (fun _ => rfl) (by decide) (nI_clamp (by decide)) (by decide) (Nat.le_of_ble_eq_true rfl) hF3 (fun q3 hF4 => ?_)
    refine pw_aload_n e_Plan_init_56 rfl ?_
    refine pw_bipush (v := nI 10) e_Plan_init_57 (by decide) ?_
    refine pw_mkA (kc := 23) (ks := 224) (nn := 10) (t0 := 0) (a0 := (10, .inl (fun _ => 0))) (atype := .int) e_Plan_init_59 e_Plan_init_61 fp_Plan_37 rfl rfl rfl ac_int (fun _ => rfl) (by decide) (nI_clamp (by decide)) (by decide) (Nat.le_of_ble_eq_true rfl) hF4 (fun q4 hF5 => ?_)
    refine pw_aload_n e_Plan_init_64 rfl ?_
    refine pw_bipush (v := nI 10) e_Plan_init_65 (by decide) ?_
    refine pw_mkA (kc := 22) (ks := 214) (nn := 10) (t0 := 0) (a0 := (10, .inl (fun _ => 0))) (atype := .int) e_Plan_init_67 e_Plan_init_69 fp_Plan_40 rfl rfl rfl ac_int (fun _ => rfl) (by decide) (nI_clamp (by decide)) (by decide) (Nat.le_of_ble_eq_true rfl) hF5 (fun q5 hF6 => ?_)
    refine pw_aload_n e_Plan_init_72 rfl ?_
    refine pw_bipush (v := nI 10) e_Plan_init_73 (by decide) ?_
    refine pw_mkA (kc := 21) (ks := 204) (nn := 10) (t0 := 0) (a0 := (10, .inl (fun _ => 0))) (atype := .int) e_Plan_init_75 e_Plan_init_77 fp_Plan_43 rfl rfl rfl ac_int (fun _ => rfl) (by decide) (nI_clamp (by decide)) (by decide) (Nat.le_of_ble_eq_true rfl) hF6 (fun q6 hF7 => ?_)
    refine pw_aload_n e_Plan_init_80 rfl ?_
    refine pw_bipush (v := nI 10) e_Plan_init_81 (by decide) ?_
    refine pw_mkA (kc := 20) (ks := 194) (nn := 10) (t0 := 0) (a0 := (10, .inl (fun _ => 0))) (atype := .int) e_Plan_init_83 e_Plan_init_85 fp_Plan_46 rfl rfl rfl ac_int (fun _ => rfl) (by decide) (nI_clamp (by decide)) (by decide) (Nat.le_of_ble_eq_true rfl) hF7 (fun q7 hF8 => ?_)
    refine pw_aload_n e_Plan_init_88 rfl ?_
    refine pw_bipush (v := nI 10) e_Plan_init_89 (by decide) ?_
    refine pw_mkA (kc := 19) (ks := 184) (nn := 10) (t0 := 2) (a0 := (10, .inl (fun _ => 0))) (atype := .boolean) e_Plan_init_91 e_Plan_init_93 fp_Plan_49 rfl rfl rfl ac_boolean (fun _ => rfl) (by decide) (nI_clamp (by decide)) (by decide) (Nat.le_of_ble_eq_true rfl) hF8 (fun q8 hF9 => ?_)
    refine pw_aload_n e_Plan_init_96 rfl ?_
    refine pw_bipush (v := nI 10) e_Plan_init_97 (by decide) ?_
    refine pw_mkA (kc := 18) (ks := 174) (nn := 10) (t0 := 2) (a0 := (10, .inl (fun _ => 0))) (atype := .boolean) e_Plan_init_99 e_Plan_init_101 fp_Plan_53 rfl rfl rfl ac_boolean (fun _ => rfl) (by decide) (nI_clamp (by decide)) (by decide) (Nat.le_of_ble_eq_true rfl) hF9 (fun q9 hF10 => ?_)
    refine pw_aload_n e_Plan_init_104 rfl ?_
    refine pw_bipush (v := nI 30) e_Plan_init_105 (by decide) ?_
    refine pw_mkA (kc := 17) (ks := 144) (nn := 30) (t0 := 0) (a0 := (30, .inl (fun _ => 0))) (atype := .int) e_Plan_init_107 e_Plan_init_109 fp_Plan_56 rfl rfl rfl ac_int (fun _ => rfl) (by decide) (nI_clamp (by decide)) (by decide) (Nat.le_of_ble_eq_true rfl) hF10 (fun q10 hF11 => ?_)
    refine pw_aload_n e_Plan_init_112 rfl ?_
    refine pw_bipush (v := nI 10) e_Plan_init_113 (by decide) ?_
    refine pw_mkA (kc := 16) (ks := 134) (nn := 10) (t0 := 0) (a0 := (10, .inl (fun _ => 0))) (atype := .int) e_Plan_init_115 e_Plan_init_117 fp_Plan_59 rfl rfl rfl ac_int (fun _ => rfl) (by decide) (nI_clamp (by decide)) (by decide) (Nat.le_of_ble_eq_true rfl) hF11 (fun q11 hF12 => ?_)
    refine pw_aload_n e_Plan_init_120 rfl ?_
    refine pw_mkO (kc := 12) (ks := 94) (kc' := 3) (ks' := 36) (N := 4) (dfl := [.int 0, .null, .null, .null]) (O := O_Links g) (T := T_Links g) e_Plan_init_121 e_Plan_init_124 e_Plan_init_125 e_Plan_init_128 rfl i_Links t_Links_ok cl_Plan_62 in_Links ini_Links (by decide +kernel) li_Plan_64 (fun ha => q_Links_init hst ha) (by decide) (Nat.le_of_ble_eq_true rfl) fp_Plan_65 rfl (Nat.le_of_ble_eq_true rfl) hF12 (fun q12 B12 hF13 => ?_)
    refine pw_aload_n e_Plan_init_131 rfl ?_
    refine pw_mkO (kc := 8) (ks := 79) (kc' := 3) (ks' := 12) (N := 3) (dfl := [.null, .null, .null]) (O := O_Plants g) (T := T_Plants g) e_Plan_init_132 e_Plan_init_135 e_Plan_init_136 e_Plan_init_139 rfl i_Plants t_Plants_ok cl_Plan_69 in_Plants ini_Plants (by decide +kernel) li_Plan_71 (fun ha => q_Plants_init hst ha) (by decide) (Nat.le_of_ble_eq_true rfl) fp_Plan_72 rfl (Nat.le_of_ble_eq_true rfl) hF13 (fun q16 B16 hF14 => ?_)
    refine pw_aload_n e_Plan_init_142 rfl ?_
    refine pw_mkO (kc := 0) (ks := 0) (kc' := 7) (ks' := 69) (N := 10) (dfl := [.int 0, .int 0, .int 0, .null, .null, .null, .null, .null, .null, .null]) (O := O_Layout g) (T := T_Layout g) e_Plan_init_143 e_Plan_init_146 e_Plan_init_147 e_Plan_init_150 rfl i_Layout t_Layout_ok cl_Plan_76 in_Layout ini_Layout (by decide +kernel) li_Plan_78 (fun ha => q_Layout_init hst ha) (by decide) (Nat.le_of_ble_eq_true rfl) fp_Plan_79 rfl (Nat.le_of_ble_eq_true rfl) hF14 (fun q20 B20 hF15 => ?_)
    refine pw_vret e_Plan_init_153 rfl ?_
    exact ⟨rfl, fun i => if i < 1 then q0 else if i < 2 then q1 else if i < 3 then q2 else if i < 4 then q3 else if i < 5 then q4 else if i < 6 then q5 else if i < 7 then q6 else if i < 8 then q7 else if i < 9 then q8 else if i < 10 then q9 else if i < 11 then q10 else if i < 12 then q11 else if i < 13 then q12 else if i < 16 then B12 (i - 13) else if i < 17 then q16 else if i < 20 then B16 (i - 17) else if i < 21 then q20 else if i < 28 then B20 (i - 21) else 0, hF15, rfl⟩
def O_Reader (g : GG) (A : Nat → Nat) : va_E := .inr (7, [.int (-1), .int (0), .ref (A 0), .int (0), .int (0), .ref (A 1), .int (0), .int (0), .int (0), .int (0), .int (0)])
def T_Reader (g : GG) (A : Nat → Nat) : List (Nat × va_E) := (([] ++ ([(A 0, aB g 0 (fun _ => 0))])) ++ ((A 1, O_Plan g (sA A 2)) :: T_Plan g (sA A 2)))
set_option maxRecDepth 8000 in
theorem q_Reader_init {g : GG} {h : Hp} {a : Nat} (hst : (gl g).stackTraces = false) (ha : h a = some (.inr (7, [.int 0, .int 0, .null, .int 0, .int 0, .null, .int 0, .int 0, .int 0, .int 0, .int 0]))) : PM g M_Reader_init 3 30 293 [.ref a] h (Mk h a (O_Reader g) (T_Reader g)) := by
  refine PM.of hst (by decide) rfl (fun v hv => ?_) (Nat.le_of_ble_eq_true rfl) ?_
  · simp only [List.mem_cons, List.not_mem_nil, or_false] at hv; rcases hv with rfl <;> rfl
  · refine pw_mk0 ha ?_
    have hF0 : NF h a [] := NF.nil
    refine pw_aload_n e_Reader_init_0 rfl ?_
    refine pw_objInit e_Reader_init_1 oi_Reader_3 (by decide) (by decide) ?_
    refine pw_aload_n e_Reader_init_4 rfl ?_
    refine pw_iconst (v := (-1)) e_Reader_init_5 (by decide) ?_
    refine pw_mkI e_Reader_init_6 fp_Reader_9 (Nat.le_of_ble_eq_true rfl) rfl rfl ?_
    refine pw_aload_n e_Reader_init_9 rfl ?_
    refine pw_iconst (v := nI 0) e_Reader_init_10 (by decide) ?_
    refine pw_mkI e_Reader_init_11 fp_Reader_15 (Nat.le_of_ble_eq_true rfl) rfl rfl ?_
    refine pw_aload_n e_Reader_init_14 rfl ?_
    refine pw_iconst (v := nI 0) e_Reader_init_15 (by decide) ?_
    refine pw_mkB (kc := 29) (ks := 293) (nn := 0) (t0 := 1) (a0 := (0, .inl (fun _ => 0))) (atype := .byte) e_Reader_init_16 e_Reader_init_18 fp_Reader_18 rfl rfl rfl ac_byte (fun _ => rfl) (by decide) (nI_clamp (by decide)) (by decide) (Nat.le_of_ble_eq_true rfl) hF0 (fun q0 hF1 => ?_)
    refine pw_aload_n e_Reader_init_21 rfl ?_
    refine pw_iconst (v := nI 0) e_Reader_init_22 (by decide) ?_
    refine pw_mkI e_Reader_init_23 fp_Reader_22 (Nat.le_of_ble_eq_true rfl) rfl rfl ?_
    refine pw_aload_n e_Reader_init_26 rfl ?_
    refine pw_iconst (v := nI 0) e_Reader_init_27 (by decide) ?_
    refine pw_mkI e_Reader_init_28 fp_Reader_25 (Nat.le_of_ble_eq_true rfl) rfl rfl ?_
    refine pw_aload_n e_Reader_init_31 rfl ?_
    refine pw_mkP (kc := 0) (ks := 0) (kc' := 28) (ks' := 274) (N := 19) (dfl := [.int 0, .int 0, .int 0, .int 0, .null, .null, .null, .null, .null, .null, .null, .null, .null, .null, .null, .null, .null, .null, .null]) (O := O_Plan g) (T := T_Plan g) e_Reader_init_32 e_Reader_init_35 e_Reader_init_36 e_Reader_init_39 rfl i_Plan t_Plan_ok cl_Reader_28 in_Plan ini_Plan (by decide +kernel) li_Reader_30 (fun ha => q_Plan_init hst ha) (by decide) (Nat.le_of_ble_eq_true rfl) fp_Reader_31 rfl (Nat.le_of_ble_eq_true rfl) hF1 (fun q1 B1 hF2 => ?_)
    refine pw_aload_n e_Reader_init_42 rfl ?_
    refine pw_iconst (v := nI 0) e_Reader_init_43 (by decide) ?_
    refine pw_mkI e_Reader_init_44 fp_Reader_35 (Nat.le_of_ble_eq_true rfl) rfl rfl ?_
    refine pw_aload_n e_Reader_init_47 rfl ?_
    refine pw_iconst (v := nI 0) e_Reader_init_48 (by decide) ?_
    refine pw_mkI e_Reader_init_49 fp_Reader_38 (Nat.le_of_ble_eq_true rfl) rfl rfl ?_
    refine pw_aload_n e_Reader_init_52 rfl ?_
    refine pw_iconst (v := nI 0) e_Reader_init_53 (by decide) ?_
    refine pw_mkI e_Reader_init_54 fp_Reader_42 (Nat.le_of_ble_eq_true rfl) rfl rfl ?_
    refine pw_aload_n e_Reader_init_57 rfl ?_
    refine pw_iconst (v := nI 0) e_Reader_init_58 (by decide) ?_
    refine pw_mkI e_Reader_init_59 fp_Reader_45 (Nat.le_of_ble_eq_true rfl) rfl rfl ?_
    refine pw_aload_n e_Reader_init_62 rfl ?_
    refine pw_iconst (v := nI 0) e_Reader_init_63 (by decide) ?_
    refine pw_mkI e_Reader_init_64 fp_Reader_48 (Nat.le_of_ble_eq_true rfl) rfl rfl ?_
    refine pw_vret e_Reader_init_67 rfl ?_
    exact ⟨rfl, fun i => if i < 1 then q0 else if i < 2 then q1 else if i < 30 then B1 (i - 2) else 0, hF2, rfl⟩
def O_Years (g : GG) (A : Nat → Nat) : va_E := .inr (9, [.int (0), .int (0)])
def T_Years (g : GG) (A : Nat → Nat) : List (Nat × va_E) := []
set_option maxRecDepth 8000 in
theorem q_Years_init {g : GG} {h : Hp} {a : Nat} (hst : (gl g).stackTraces = false) (ha : h a = some (.inr (9, [.int 0, .int 0]))) : PM g M_Years_init 1 0 0 [.ref a] h (Mk h a (O_Years g) (T_Years g)) := by
  refine PM.of hst (by decide) rfl (fun v hv => ?_) (Nat.le_of_ble_eq_true rfl) ?_
  · simp only [List.mem_cons, List.not_mem_nil, or_false] at hv; rcases hv with rfl <;> rfl
  · refine pw_mk0 ha ?_
    have hF0 : NF h a [] := NF.nil
    refine pw_aload_n e_Years_init_0 rfl ?_
    refine pw_objInit e_Years_init_1 oi_Years_3 (by decide) (by decide) ?_
    refine pw_aload_n e_Years_init_4 rfl ?_
    refine pw_iconst (v := nI 0) e_Years_init_5 (by decide) ?_
    refine pw_mkI e_Years_init_6 fp_Years_9 (Nat.le_of_ble_eq_true rfl) rfl rfl ?_
    refine pw_aload_n e_Years_init_9 rfl ?_
    refine pw_iconst (v := nI 0) e_Years_init_10 (by decide) ?_
    refine pw_mkI e_Years_init_11 fp_Years_15 (Nat.le_of_ble_eq_true rfl) rfl rfl ?_
    refine pw_vret e_Years_init_14 rfl ?_
    exact ⟨rfl, fun _ => 0, hF0, rfl⟩
