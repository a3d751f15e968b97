/-! worlds with some cells that are written (written by wip/whole/gen_ov.py) -/
def ov (h : Hp) : List (Nat × va_E) → Hp
  | [] => h
  | (a, e) :: l => va_up (ov h l) a (some e)
theorem ov_none {h : Hp} : ∀ {l : List (Nat × va_E)} {b : Nat}, b ∉ l.map Prod.fst → ov h l b = h b
  | [], _, _ => rfl
  | (a, e) :: l, b, hb => by
    rw [List.map_cons, List.mem_cons, not_or] at hb
    show va_up (ov h l) a (some e) b = h b
    rw [show va_up (ov h l) a (some e) b = ov h l b by simp [va_up, hb.1]]
    exact ov_none hb.2
theorem ov_ne {h : Hp} {l : List (Nat × va_E)} {ks : List Nat} {b : Nat} {x : Option va_E} (hn : b ∉ ks) (hx : h b = x) (hk : l.map Prod.fst = ks) : ov h l b = x := by
  subst hk
  rw [ov_none hn]; exact hx
theorem ov_get {h : Hp} : ∀ {l : List (Nat × va_E)} {ks : List Nat} {a i : Nat} {e : va_E}, ks.Nodup → l.map Prod.fst = ks → l[i]? = some (a, e) → ov h l a = some e
  | [], _, _, _, _, _, _, hi => by simp at hi
  | (b, x) :: l, _, a, 0, e, _, _, hi => by
    simp at hi
    obtain ⟨rfl, rfl⟩ := hi
    exact up_same
  | (b, x) :: l, _, a, i + 1, e, hnd, rfl, hi => by
    rw [List.map_cons, List.nodup_cons] at hnd
    have hm : (a, e) ∈ l := List.mem_of_getElem? (by simpa using hi)
    refine up_ne ?_ (ov_get hnd.2 rfl (i := i) (by simpa using hi))
    intro q
    subst q
    exact hnd.1 (List.mem_map.mpr ⟨_, hm, rfl⟩)
theorem ov_in {h : Hp} {l : List (Nat × va_E)} {kl : List Nat} {q : Nat × va_E} (hnd : kl.Nodup) (hk : l.map Prod.fst = kl) (hq : q ∈ l) : ov h l q.1 = some q.2 := by
  obtain ⟨i, hi⟩ := List.getElem?_of_mem hq
  exact ov_get hnd hk hi
theorem ov_set {h : Hp} : ∀ {l : List (Nat × va_E)} {ks : List Nat} {a i : Nat} {e e0 : va_E}, ks.Nodup → l.map Prod.fst = ks → l[i]? = some (a, e0) → va_up (ov h l) a (some e) = ov h (l.set i (a, e))
  | [], _, _, _, _, _, _, _, hi => by simp at hi
  | (b, x) :: l, _, a, 0, e, e0, _, _, hi => by
    simp at hi
    obtain ⟨rfl, rfl⟩ := hi
    exact up_up _ _ _ _
  | (b, x) :: l, _, a, i + 1, e, e0, hnd, rfl, hi => by
    rw [List.map_cons, List.nodup_cons] at hnd
    have hm : (a, e0) ∈ l := List.mem_of_getElem? (by simpa using hi)
    have hne : b ≠ a := by
      intro q
      subst q
      exact hnd.1 (List.mem_map.mpr ⟨_, hm, rfl⟩)
    show va_up (va_up (ov h l) b (some x)) a (some e) = va_up (ov h (l.set i (a, e))) b (some x)
    rw [up_comm _ _ _ hne, ov_set hnd.2 rfl (i := i) (e0 := e0) (by simpa using hi)]
theorem ov_self {h : Hp} : ∀ {l : List (Nat × va_E)}, (∀ q ∈ l, h q.1 = some q.2) → ov h l = h
  | [], _ => rfl
  | (a, e) :: l, hl => by
    show va_up (ov h l) a (some e) = h
    rw [ov_self (fun q hq => hl q (List.mem_cons_of_mem _ hq))]
    exact up_self (hl (a, e) List.mem_cons_self)
section
variable {g : GG} {M : MI} {d kc ks : Nat} {Q : QT} {pc : Nat} {ls st : List Value} {h : Hp}
theorem pw_ov1 {l l2 : List (Nat × va_E)} {kl : List Nat} {a i : Nat} {e e0 : va_E} (hnd : kl.Nodup) (hk : l.map Prod.fst = kl) (hi : l[i]? = some (a, e0)) (hl : l.set i (a, e) = l2) (k : PW g M d kc ks Q pc ls st (ov h l2)) : PW g M d kc ks Q pc ls st (va_up (ov h l) a (some e)) := by
  rw [ov_set hnd hk hi, hl]; exact k
theorem map_set_fst {l : List (Nat × va_E)} {a i : Nat} {e e0 : va_E} (hi : l[i]? = some (a, e0)) : (l.set i (a, e)).map Prod.fst = l.map Prod.fst := by
  apply List.ext_getElem?
  intro j
  rw [List.getElem?_map, List.getElem?_map, List.getElem?_set]
  split
  · rename_i q
    subst q
    obtain ⟨hlt, hx⟩ := List.getElem?_eq_some_iff.mp hi
    rw [if_pos hlt, hi]; rfl
  · rfl
theorem pw_ov2 {l l2 : List (Nat × va_E)} {kl : List Nat} {a b i j : Nat} {e e0 x x0 : va_E} (hnd : kl.Nodup) (hk : l.map Prod.fst = kl) (hi : l[i]? = some (a, e0)) (hj : l[j]? = some (b, x0)) (hij : i ≠ j) (hl : (l.set j (b, x)).set i (a, e) = l2) (k : PW g M d kc ks Q pc ls st (ov h l2)) : PW g M d kc ks Q pc ls st (va_up (va_up (ov h l) b (some x)) a (some e)) := by
  rw [ov_set hnd hk hj, ov_set hnd ((map_set_fst hj).trans hk) (i := i) (e0 := e0) (by rw [List.getElem?_set_ne (Ne.symm hij)]; exact hi), hl]; exact k
theorem ov_same {h : Hp} : ∀ {l l2 : List (Nat × va_E)} {kl : List Nat}, kl.Nodup → l.map Prod.fst = kl → l2.map Prod.fst = kl → ov (ov h l) l2 = ov h l2 := by
  intro l l2 kl hnd h1 h2
  funext x
  by_cases hx : x ∈ kl
  · rw [← h2] at hx
    obtain ⟨q, hq, rfl⟩ := List.mem_map.mp hx
    obtain ⟨i, hi⟩ := List.getElem?_of_mem hq
    obtain ⟨a, e⟩ := q
    rw [ov_get hnd h2 hi, ov_get hnd h2 hi]
  · rw [ov_none (by rw [h2]; exact hx), ov_none (by rw [h1]; exact hx), ov_none (by rw [h2]; exact hx)]
theorem pw_same {l l2 : List (Nat × va_E)} {kl : List Nat} (hnd : kl.Nodup) (h1 : l.map Prod.fst = kl) (h2 : l2.map Prod.fst = kl) (k : PW g M d kc ks Q pc ls st (ov h l2)) : PW g M d kc ks Q pc ls st (ov (ov h l) l2) := by
  rw [ov_same hnd h1 h2]; exact k
def u2 (L : Nat → Nat → Int32) (k i : Nat) (v : Int32) : Nat → Nat → Int32 := va_up L k (upd (L k) i v)
def setAll (l : List (Nat × va_E)) : List (Nat × Nat × va_E) → List (Nat × va_E)
  | [] => l
  | (i, a, e) :: m => (setAll l m).set i (a, e)
def inAll (l : List (Nat × va_E)) : List (Nat × Nat × va_E) → Prop
  | [] => True
  | (i, a, _) :: m => (∃ e0, l[i]? = some (a, e0)) ∧ inAll l m
theorem setAll_fst {l : List (Nat × va_E)} : ∀ {m : List (Nat × Nat × va_E)}, inAll l m → (setAll l m).map Prod.fst = l.map Prod.fst ∧ ∀ (i a : Nat) (e0 : va_E), l[i]? = some (a, e0) → ∃ e1 : va_E, (setAll l m)[i]? = some (a, e1)
  | [], _ => ⟨rfl, fun i a e0 h => ⟨e0, h⟩⟩
  | (i, a, e) :: m, hm => by
    obtain ⟨⟨e0, h0⟩, hm⟩ := hm
    obtain ⟨q1, q2⟩ := setAll_fst hm
    obtain ⟨e1, h1⟩ := q2 i a e0 h0
    refine ⟨(map_set_fst h1).trans q1, fun j b x hj => ?_⟩
    show ∃ e1, ((setAll l m).set i (a, e))[j]? = some (b, e1)
    obtain ⟨x1, hx1⟩ := q2 j b x hj
    by_cases hij : i = j
    · subst hij
      rw [h0] at hj
      cases hj
      exact ⟨e, by rw [List.getElem?_set_self (List.getElem?_eq_some_iff.mp h1).1]⟩
    · exact ⟨x1, by rw [List.getElem?_set_ne hij]; exact hx1⟩
theorem ov_all {h : Hp} {l : List (Nat × va_E)} {kl : List Nat} (hnd : kl.Nodup) (hk : l.map Prod.fst = kl) : ∀ {m : List (Nat × Nat × va_E)}, inAll l m → ov (ov h l) (m.map Prod.snd) = ov h (setAll l m)
  | [], _ => rfl
  | (i, a, e) :: m, hm => by
    have hm0 := hm
    obtain ⟨⟨e0, h0⟩, hm⟩ := hm
    obtain ⟨q1, q2⟩ := setAll_fst hm
    obtain ⟨e1, h1⟩ := q2 i a e0 h0
    show va_up (ov (ov h l) (m.map Prod.snd)) a (some e) = ov h ((setAll l m).set i (a, e))
    rw [ov_all hnd hk hm, ov_set hnd (q1.trans hk) h1]
theorem pw_ovm {l l2 m0 : List (Nat × va_E)} {kl : List Nat} (m : List (Nat × Nat × va_E)) (hnd : kl.Nodup) (hk : l.map Prod.fst = kl) (hm : inAll l m) (h0 : m0 = m.map Prod.snd) (hl : setAll l m = l2) (k : PW g M d kc ks Q pc ls st (ov h l2)) : PW g M d kc ks Q pc ls st (ov (ov h l) m0) := by
  rw [h0, ov_all hnd hk hm, hl]; exact k
theorem pw_putO {idx ci kf a i : Nat} {fs : List Value} {v : Value} {ty : FieldType} {l l2 : List (Nat × va_E)} {kl : List Nat} (dc : decode M.2.1 pc = .ok (.putfield idx, 3)) (hl : FP M.1.cls idx ci kf ty false) (hnd : kl.Nodup) (hk : l.map Prod.fst = kl) (hi : l[i]? = some (a, .inr (ci, fs))) (hlen : kf < fs.length) (hn : narrow ty v = v) (hfit : fits ty v = true) (h2 : l.set i (a, .inr (ci, fs.set kf v)) = l2) (k : PW g M d kc ks Q (pc + 3) ls st (ov h l2)) : PW g M d kc ks Q pc ls (v :: .ref a :: st) (ov h l) :=
  pw_putf dc hl (ov_get hnd hk hi) hlen hn hfit (pw_ov1 hnd hk hi h2 k)
theorem pw_iastO {a n k0 i : Nat} {f : Nat → Int32} {x : Int32} {l l2 : List (Nat × va_E)} {kl : List Nat} (dc : decode M.2.1 pc = .ok (.iastore, 1)) (hnd : kl.Nodup) (hk : l.map Prod.fst = kl) (hi : l[i]? = some (a, aI g n f)) (hk0 : k0 < n) (hn : n < 2 ^ 31) (h2 : l.set i (a, aI g n (upd f k0 x)) = l2) (k : PW g M d kc ks Q (pc + 1) ls st (ov h l2)) : PW g M d kc ks Q pc ls (.int x :: .int (nI k0) :: .ref a :: st) (ov h l) :=
  pw_iastN dc (ov_get hnd hk hi) hk0 hn (pw_ov1 hnd hk hi h2 k)
theorem pw_zastO {a n k0 i : Nat} {f : Nat → Int32} {x : Int32} {l l2 : List (Nat × va_E)} {kl : List Nat} (dc : decode M.2.1 pc = .ok (.bastore, 1)) (hnd : kl.Nodup) (hk : l.map Prod.fst = kl) (hi : l[i]? = some (a, aZ g n f)) (hk0 : k0 < n) (hn : n < 2 ^ 31) (hx : vp_nar .boolean x = x) (h2 : l.set i (a, aZ g n (upd f k0 x)) = l2) (k : PW g M d kc ks Q (pc + 1) ls st (ov h l2)) : PW g M d kc ks Q pc ls (.int x :: .int (nI k0) :: .ref a :: st) (ov h l) :=
  pw_zastN dc (ov_get hnd hk hi) hk0 hn hx (pw_ov1 hnd hk hi h2 k)
theorem pw_bastO {a n k0 i : Nat} {f : Nat → Int32} {x : Int32} {l l2 : List (Nat × va_E)} {kl : List Nat} (dc : decode M.2.1 pc = .ok (.bastore, 1)) (hnd : kl.Nodup) (hk : l.map Prod.fst = kl) (hi : l[i]? = some (a, aB g n f)) (hk0 : k0 < n) (hn : n < 2 ^ 31) (h2 : l.set i (a, aB g n (upd f k0 (vp_nar .byte x))) = l2) (k : PW g M d kc ks Q (pc + 1) ls st (ov h l2)) : PW g M d kc ks Q pc ls (.int x :: .int (nI k0) :: .ref a :: st) (ov h l) :=
  pw_bastN dc (ov_get hnd hk hi) hk0 hn (pw_ov1 hnd hk hi h2 k)
end
/-! groups: cells that one function of keys describes -/
abbrev GL : Type := List (Nat × Nat × ((Nat → Int32) → va_E))
def gO (L : GL) (Z : Nat → Nat → Int32) : List (Nat × va_E) := L.map (fun q => (q.1, q.2.2 (Z q.2.1)))
def gK (L : GL) : List Nat := L.map Prod.fst
def gX (L : GL) : List Nat := L.map (fun q => q.2.1)
theorem gO_fst (L : GL) (Z : Nat → Nat → Int32) : (gO L Z).map Prod.fst = gK L := by
  unfold gO gK
  rw [List.map_map]
  rfl
theorem gO_at {L : GL} {Z : Nat → Nat → Int32} {i a k : Nat} {mk : (Nat → Int32) → va_E} (hi : L[i]? = some (a, k, mk)) : (gO L Z)[i]? = some (a, mk (Z k)) := by
  unfold gO
  rw [List.getElem?_map, hi]
  rfl
theorem gO_get {h : Hp} {L : GL} {Z : Nat → Nat → Int32} {i a k : Nat} {mk : (Nat → Int32) → va_E} (hnd : (gK L).Nodup) (hi : L[i]? = some (a, k, mk)) : ov h (gO L Z) a = some (mk (Z k)) := ov_get hnd (gO_fst L Z) (gO_at hi)
theorem gX_ne {L : GL} (hx : (gX L).Nodup) {i j a k b k' : Nat} {mk mk' : (Nat → Int32) → va_E} (hi : L[i]? = some (a, k, mk)) (hj : L[j]? = some (b, k', mk')) (hij : i ≠ j) : k ≠ k' := by
  intro e
  subst e
  have h1 : (gX L)[i]? = some k := by unfold gX; rw [List.getElem?_map, hi]; rfl
  have h2 : (gX L)[j]? = some k := by unfold gX; rw [List.getElem?_map, hj]; rfl
  obtain ⟨li, e1⟩ := List.getElem?_eq_some_iff.mp h1
  obtain ⟨lj, e2⟩ := List.getElem?_eq_some_iff.mp h2
  rcases Nat.lt_or_gt_of_ne hij with q | q
  · exact List.pairwise_iff_getElem.mp hx i j li lj q (e1.trans e2.symm)
  · exact List.pairwise_iff_getElem.mp hx j i lj li q (e2.trans e1.symm)
theorem gO_set0 {L : GL} {Z : Nat → Nat → Int32} {i a k : Nat} {mk : (Nat → Int32) → va_E} {f : Nat → Int32} (hx : (gX L).Nodup) (hi : L[i]? = some (a, k, mk)) : (gO L Z).set i (a, mk f) = gO L (va_up Z k f) := by
  apply List.ext_getElem?
  intro j
  rw [List.getElem?_set]
  by_cases hij : i = j
  · subst hij
    rw [if_pos rfl, gO_at hi, if_pos (List.getElem?_eq_some_iff.mp (gO_at (Z := Z) hi)).1, up_same]
  · rw [if_neg hij]
    unfold gO
    rw [List.getElem?_map, List.getElem?_map]
    cases hj : L[j]? with
    | none => rfl
    | some q =>
      obtain ⟨b, k', mk'⟩ := q
      have hne := gX_ne hx hi hj hij
      show some (b, mk' (Z k')) = some (b, mk' (va_up Z k f k'))
      rw [up_ne (Ne.symm hne) rfl]
theorem gO_set {h : Hp} {L : GL} {Z : Nat → Nat → Int32} {i a k : Nat} {mk : (Nat → Int32) → va_E} {f : Nat → Int32} (hnd : (gK L).Nodup) (hx : (gX L).Nodup) (hi : L[i]? = some (a, k, mk)) : va_up (ov h (gO L Z)) a (some (mk f)) = ov h (gO L (va_up Z k f)) := by
  rw [ov_set hnd (gO_fst L Z) (gO_at hi), gO_set0 hx hi]
def mixK (ks : List Nat) (Z1 Z : Nat → Nat → Int32) : Nat → Nat → Int32 := fun k => if k ∈ ks then Z1 k else Z k
theorem gO_in {h : Hp} {L L' : GL} {Z : Nat → Nat → Int32} (hnd : (gK L).Nodup) (hs : ∀ q ∈ L', q ∈ L) : ∀ q ∈ gO L' Z, ov h (gO L Z) q.1 = some q.2 := by
  intro q hq
  obtain ⟨x, hx, rfl⟩ := List.mem_map.mp hq
  obtain ⟨i, hi⟩ := List.getElem?_of_mem (hs x hx)
  obtain ⟨a, k, mk⟩ := x
  exact gO_get hnd hi
theorem gO_mix {h : Hp} {L L' : GL} {Z Z1 : Nat → Nat → Int32} (hnd : (gK L).Nodup) (hx : (gX L).Nodup) (hnd' : (gK L').Nodup) (hs : ∀ q ∈ L', q ∈ L) : ov (ov h (gO L Z)) (gO L' Z1) = ov h (gO L (mixK (gX L') Z1 Z)) := by
  funext x
  by_cases h1 : x ∈ gK L'
  · obtain ⟨q, hq, rfl⟩ := List.mem_map.mp h1
    obtain ⟨a, k, mk⟩ := q
    obtain ⟨i, hi⟩ := List.getElem?_of_mem hq
    obtain ⟨j, hj⟩ := List.getElem?_of_mem (hs _ hq)
    rw [gO_get hnd' hi, gO_get hnd hj]
    have hk : k ∈ gX L' := List.mem_map.mpr ⟨_, hq, rfl⟩
    rw [show mixK (gX L') Z1 Z k = Z1 k from if_pos hk]
  · rw [ov_none (by rw [gO_fst]; exact h1)]
    by_cases h2 : x ∈ gK L
    · obtain ⟨q, hq, rfl⟩ := List.mem_map.mp h2
      obtain ⟨a, k, mk⟩ := q
      obtain ⟨j, hj⟩ := List.getElem?_of_mem hq
      rw [gO_get hnd hj, gO_get hnd hj]
      have hk : k ∉ gX L' := by
        intro hk
        obtain ⟨⟨b, k2, mk2⟩, hq2, e⟩ := List.mem_map.mp hk
        have e : k2 = k := e
        subst e
        obtain ⟨j2, hj2⟩ := List.getElem?_of_mem (hs _ hq2)
        by_cases e3 : j = j2
        · subst e3
          rw [hj] at hj2
          cases hj2
          exact h1 (List.mem_map.mpr ⟨_, hq2, rfl⟩)
        · exact gX_ne hx hj hj2 e3 rfl
      rw [show mixK (gX L') Z1 Z k = Z k from if_neg hk]
    · rw [ov_none (by rw [gO_fst]; exact h2), ov_none (by rw [gO_fst]; exact h2)]
section
variable {g : GG} {M : MI} {d kc ks : Nat} {Q : QT} {pc : Nat} {ls st : List Value} {h : Hp} {L L' : GL} {Z Z1 : Nat → Nat → Int32}
theorem pw_iastG {a n k0 i k : Nat} {x : Int32} (dc : decode M.2.1 pc = .ok (.iastore, 1)) (hnd : (gK L).Nodup) (hx : (gX L).Nodup) (hi : L[i]? = some (a, k, aI g n)) (hk0 : k0 < n) (hn : n < 2 ^ 31) (kk : PW g M d kc ks Q (pc + 1) ls st (ov h (gO L (u2 Z k k0 x)))) : PW g M d kc ks Q pc ls (.int x :: .int (nI k0) :: .ref a :: st) (ov h (gO L Z)) :=
  pw_iastN dc (gO_get hnd hi) hk0 hn (by rw [show some (aI g n (upd (Z k) k0 x)) = some ((aI g n) (upd (Z k) k0 x)) from rfl, gO_set hnd hx hi]; exact kk)
theorem pw_zastG {a n k0 i k : Nat} {x : Int32} (dc : decode M.2.1 pc = .ok (.bastore, 1)) (hnd : (gK L).Nodup) (hx : (gX L).Nodup) (hi : L[i]? = some (a, k, aZ g n)) (hk0 : k0 < n) (hn : n < 2 ^ 31) (hz : vp_nar .boolean x = x) (kk : PW g M d kc ks Q (pc + 1) ls st (ov h (gO L (u2 Z k k0 x)))) : PW g M d kc ks Q pc ls (.int x :: .int (nI k0) :: .ref a :: st) (ov h (gO L Z)) :=
  pw_zastN dc (gO_get hnd hi) hk0 hn hz (by rw [show some (aZ g n (upd (Z k) k0 x)) = some ((aZ g n) (upd (Z k) k0 x)) from rfl, gO_set hnd hx hi]; exact kk)
theorem pw_bastG {a n k0 i k : Nat} {x : Int32} (dc : decode M.2.1 pc = .ok (.bastore, 1)) (hnd : (gK L).Nodup) (hx : (gX L).Nodup) (hi : L[i]? = some (a, k, aB g n)) (hk0 : k0 < n) (hn : n < 2 ^ 31) (kk : PW g M d kc ks Q (pc + 1) ls st (ov h (gO L (u2 Z k k0 (vp_nar .byte x))))) : PW g M d kc ks Q pc ls (.int x :: .int (nI k0) :: .ref a :: st) (ov h (gO L Z)) :=
  pw_bastN dc (gO_get hnd hi) hk0 hn (by rw [show some (aB g n (upd (Z k) k0 (vp_nar .byte x))) = some ((aB g n) (upd (Z k) k0 (vp_nar .byte x))) from rfl, gO_set hnd hx hi]; exact kk)
theorem pw_putG {idx ci kf a i k ps : Nat} {v : Value} {x : Int32} {ty : FieldType} {tm : (Nat → Int32) → List Value} (dc : decode M.2.1 pc = .ok (.putfield idx, 3)) (hl : FP M.1.cls idx ci kf ty false) (hnd : (gK L).Nodup) (hx : (gX L).Nodup) (hi : L[i]? = some (a, k, fun f => .inr (ci, tm f))) (hlen : kf < (tm (Z k)).length) (hn : narrow ty v = v) (hfit : fits ty v = true) (hs : (tm (Z k)).set kf v = tm (upd (Z k) ps x)) (kk : PW g M d kc ks Q (pc + 3) ls st (ov h (gO L (u2 Z k ps x)))) : PW g M d kc ks Q pc ls (v :: .ref a :: st) (ov h (gO L Z)) :=
  pw_putf dc hl (gO_get hnd hi) hlen hn hfit (by rw [hs, show some (Sum.inr (ci, tm (upd (Z k) ps x))) = some ((fun f => (.inr (ci, tm f) : va_E)) (upd (Z k) ps x)) from rfl, gO_set hnd hx hi]; exact kk)
theorem pw_sameG (hnd : (gK L).Nodup) (kk : PW g M d kc ks Q pc ls st (ov h (gO L Z1))) : PW g M d kc ks Q pc ls st (ov (ov h (gO L Z)) (gO L Z1)) := by
  rw [ov_same hnd (gO_fst L Z) (gO_fst L Z1)]; exact kk
theorem pw_oneG {a i k : Nat} {e : va_E} {mk : (Nat → Int32) → va_E} {f : Nat → Int32} (hnd : (gK L).Nodup) (hx : (gX L).Nodup) (hi : L[i]? = some (a, k, mk)) (he : e = mk f) (kk : PW g M d kc ks Q pc ls st (ov h (gO L (va_up Z k f)))) : PW g M d kc ks Q pc ls st (ov (ov h (gO L Z)) [(a, e)]) := by
  subst he
  show PW g M d kc ks Q pc ls st (va_up (ov h (gO L Z)) a (some (mk f)))
  rw [gO_set hnd hx hi]; exact kk
theorem pw_upG {a i k : Nat} {e : va_E} {mk : (Nat → Int32) → va_E} {f : Nat → Int32} (hnd : (gK L).Nodup) (hx : (gX L).Nodup) (hi : L[i]? = some (a, k, mk)) (he : e = mk f) (kk : PW g M d kc ks Q pc ls st (ov h (gO L (va_up Z k f)))) : PW g M d kc ks Q pc ls st (va_up (ov h (gO L Z)) a (some e)) := by
  subst he
  rw [gO_set hnd hx hi]; exact kk
theorem pw_subG (hnd : (gK L).Nodup) (hx : (gX L).Nodup) (hnd' : (gK L').Nodup) (hs : ∀ q ∈ L', q ∈ L) (kk : PW g M d kc ks Q pc ls st (ov h (gO L (mixK (gX L') Z1 Z)))) : PW g M d kc ks Q pc ls st (ov (ov h (gO L Z)) (gO L' Z1)) := by
  rw [gO_mix hnd hx hnd' hs]; exact kk
end
