/-! the object with its histories as one world; an act is kept (written by wip/whole/c_world.py) -/
def bsA (A : Nat → Nat) : List Nat := [A 30, A 25, A 26, A 27, A 0, A 1, A 2, A 3, A 4, A 5, A 6, A 7, A 8, A 9, A 10, A 11, A 12, A 13, A 14, A 15, A 16, A 17, A 18, A 19, A 20, A 21, A 22, A 23, A 24, A 507, A 506, A 300, A 301, A 302, A 303, A 304, A 310, A 311, A 312, A 313, A 305, A 400, A 401, A 402, A 403, A 404, A 410, A 411, A 412, A 413, A 405, A 500, A 501, A 502, A 503, A 227, A 218, A 219, A 220, A 221, A 222, A 223, A 224, A 504, A 505, A 140, A 130, A 125, A 126, A 127, A 100, A 101, A 102, A 103, A 104, A 105, A 106, A 107, A 108, A 109, A 110, A 111, A 112, A 113, A 114, A 115, A 116, A 117, A 118, A 119, A 120, A 121, A 122, A 123, A 124]
theorem bs_gK (g : GG) (A : Nat → Nat) (S : SA) (P Y : Nat → Nat → Int32) : gK (bsL g A S P Y) = bsA A := rfl
/-- cells of a group stand in the heap -/
def InG (L : GL) (Z : Nat → Nat → Int32) (h : Hp) : Prop := ∀ q ∈ gO L Z, h q.1 = some q.2
theorem InG.mem {L : GL} {Z : Nat → Nat → Int32} {h : Hp} (hI : InG L Z h) {q : Nat × Nat × ((Nat → Int32) → va_E)} (hq : q ∈ L) : h q.1 = some (q.2.2 (Z q.2.1)) :=
  hI (q.1, q.2.2 (Z q.2.1)) (List.mem_map.mpr ⟨q, hq, rfl⟩)
theorem InG.upd {L L' : GL} {Z Z' : Nat → Nat → Int32} {h h' : Hp} (X : Nat → Prop) (hI : InG L Z h) (hfr : ∀ q ∈ L, ¬ X q.1 → Z' q.2.1 = Z q.2.1 ∧ h' q.1 = h q.1) (hX : ∀ q ∈ L', X q.1 → h' q.1 = some (q.2.2 (Z' q.2.1))) (hL : ∀ q ∈ L', ¬ X q.1 → q ∈ L) : InG L' Z' h' := by
  intro q hq
  obtain ⟨e, he, rfl⟩ := List.mem_map.mp hq
  by_cases c : X e.1
  · exact hX e he c
  · have m := hL e he c
    have f := hfr e m c
    show h' e.1 = some (e.2.2 (Z' e.2.1))
    rw [f.2, f.1]; exact hI.mem m
/-- class object and histories; what a history holds stands in Z at 1000, 1002 .., 1001, 1003 .. -/
def Wld (g : GG) (A : Nat → Nat) (S : SA) (P Y Z : Nat → Nat → Int32) (h : Hp) : Prop :=
  InG (bsL g A S P Y) Z h ∧ (HC g h (S 0) (fun p => Z (1000 + 2 * p)) ∧ HC g h (S 1) (fun p => Z (1001 + 2 * p))) ∧ (∀ p o c p' o' c', S 0 p = some (o, c) → S 1 p' = some (o', c') → c ≠ c') ∧ ∀ m p o c, m < 2 → S m p = some (o, c) → o ∉ bsA A ∧ c ∉ bsA A
/-- what a call of the object leaves of the rest -/
def CFr (A : Nat → Nat) (S : SA) (h : Hp) (S' : SA) (h' : Hp) : Prop := (∀ m p o c, m < 2 → S' m p = some (o, c) → S m p = some (o, c) ∨ ((∀ e, h o ≠ some e) ∧ ∀ e, h c ≠ some e)) ∧ (∀ x e, h x = some e → x ∉ bsA A → (∀ m p o c, m < 2 → S m p = some (o, c) → x ≠ c) → h' x = some e) ∧ ∀ x e, h x = some e → ∃ e', h' x = some e'
theorem CFr.refl {A : Nat → Nat} {S : SA} {h : Hp} : CFr A S h S h := ⟨fun _ _ _ _ _ q => Or.inl q, fun _ _ q _ _ => q, fun _ e q => ⟨e, q⟩⟩
theorem CFr.trans {A : Nat → Nat} {S S1 S2 : SA} {h h1 h2 : Hp} (a : CFr A S h S1 h1) (b : CFr A S1 h1 S2 h2) : CFr A S h S2 h2 := by
  refine ⟨fun m p o c hm q => ?_, fun x e q hX hc => ?_, fun x e q => ?_⟩
  · rcases b.1 m p o c hm q with r | ⟨r1, r2⟩
    · exact a.1 m p o c hm r
    · refine Or.inr ⟨fun e he => ?_, fun e he => ?_⟩
      · obtain ⟨e', r⟩ := a.2.2 o e he; exact r1 e' r
      · obtain ⟨e', r⟩ := a.2.2 c e he; exact r2 e' r
  · refine b.2.1 x e (a.2.1 x e q hX hc) hX (fun m p o c hm r => ?_)
    rcases a.1 m p o c hm r with r' | ⟨-, r2⟩
    · exact hc m p o c hm r'
    · exact ne_of q r2
  · obtain ⟨e', r⟩ := a.2.2 x e q
    exact b.2.2 x e' r
section
variable {g : GG} {A : Nat → Nat} {S : SA} {P Y Z Z' : Nat → Nat → Int32} {h h' : Hp}
set_option maxRecDepth 4000 in
theorem bs_lt : ∀ q ∈ bsL g A S P Y, q.2.1 < 1000 := by
  intro q hq
  have hx : q.2.1 ∈ gX (bsL g A S P Y) := List.mem_map.mpr ⟨q, hq, rfl⟩
  have : ∀ k ∈ gX (bsL g A S P Y), k < 1000 := by
    show ∀ k ∈ [30, 31, 26, 32, 0, 1, 2, 3, 4, 5, 6, 7, 8, 9, 10, 11, 12, 13, 14, 15, 16, 17, 18, 19, 20, 21, 22, 23, 24, 507, 506, 300, 301, 302, 303, 304, 310, 311, 312, 313, 305, 400, 401, 402, 403, 404, 410, 411, 412, 413, 405, 500, 501, 502, 503, 232, 218, 219, 220, 221, 222, 223, 224, 504, 505, 140, 130, 131, 126, 132, 100, 101, 102, 103, 104, 105, 106, 107, 108, 109, 110, 111, 112, 113, 114, 115, 116, 117, 118, 119, 120, 121, 122, 123, 124], k < 1000
    decide
  exact this _ hx
theorem Wld.dom (W : Wld g A S P Y Z h) : ∀ x ∈ bsA A, ∃ e, h x = some e := by
  intro x hx
  rw [← bs_gK g A S P Y] at hx
  obtain ⟨q, hq, rfl⟩ := List.mem_map.mp hx
  exact ⟨_, W.1.mem hq⟩
theorem HC.cg {s : Nat → Option (Nat × Nat)} {K K' : Nat → Nat → Int32} (hC : HC g h s K) (hK : ∀ p, K' p = K p) (hl : ∀ p o c, s p = some (o, c) → h' o = h o ∧ h' c = h c) : HC g h' s K' := by
  refine ⟨fun p o c q => ?_, hC.2⟩
  rw [hK p, (hl p o c q).1, (hl p o c q).2]
  exact hC.1 p o c q
/-- the object's own cells alone have changed -/
theorem Wld.put (hnd : (gK (bsL g A S P Y)).Nodup) (W : Wld g A S P Y Z h) (hk : ∀ k, 1000 ≤ k → Z' k = Z k) : Wld g A S P Y Z' (ov h (gO (bsL g A S P Y) Z')) ∧ CFr A S h S (ov h (gO (bsL g A S P Y) Z')) := by
  have out : ∀ x, x ∉ bsA A → ov h (gO (bsL g A S P Y) Z') x = h x := fun x hx => ov_none (by rw [gO_fst, bs_gK]; exact hx)
  refine ⟨⟨gO_in hnd (fun _ z => z), ⟨W.2.1.1.cg (fun p => hk _ (by omega)) (fun p o c q => ?_), W.2.1.2.cg (fun p => hk _ (by omega)) (fun p o c q => ?_)⟩, W.2.2.1, W.2.2.2⟩, fun _ _ _ _ _ q => Or.inl q, fun x e q hX _ => by rw [out x hX]; exact q, fun x e q => ?_⟩
  · have n := W.2.2.2 0 p o c (by decide) q
    exact ⟨out _ n.1, out _ n.2⟩
  · have n := W.2.2.2 1 p o c (by decide) q
    exact ⟨out _ n.1, out _ n.2⟩
  · by_cases c : x ∈ bsA A
    · exact ov_some (by rw [gO_fst, bs_gK]; exact c)
    · rw [out x c]; exact ⟨e, q⟩
end
/-- how many acts a memory keeps, and where the first of them lies -/
def HiI (Z : Nat → Nat → Int32) (k : Nat) : Prop := (Z k 0 = nI (pN Z k 0) ∧ pN Z k 0 ≤ 40) ∧ (Z k 1 = nI (pN Z k 1) ∧ pN Z k 1 < 40)
def kpP (Z : Nat → Nat → Int32) : Nat := (kpF (pN Z 303 0) (pN Z 303 1) + kpN (pN Z 303 0)) % 40
/-- the object once an act is kept -/
def kpZ (Z : Nat → Nat → Int32) : Nat → Nat → Int32 := va_up (u2 (u2 Z 303 0 (nI (kpN (pN Z 303 0) + 1))) 303 1 (nI (kpF (pN Z 303 0) (pN Z 303 1)))) (1000 + 2 * kpP Z) (Z 302)
def sS (S : SA) (s : Nat → Option (Nat × Nat)) : SA := fun m => if m = 0 then s else S m
theorem kz_k {Z : Nat → Nat → Int32} {k : Nat} (h1 : k ≠ 303) (h2 : k ≠ 1000 + 2 * kpP Z) : kpZ Z k = Z k := by
  unfold kpZ; rw [up_ne h2 rfl, u2_k h1, u2_k h1]
theorem kpP_lt (Z : Nat → Nat → Int32) : kpP Z < 40 := Nat.mod_lt _ (by decide)
section
variable {g : GG} {A : Nat → Nat} {S : SA} {P Y Z : Nat → Nat → Int32} {h h' : Hp}
theorem set_mem {L : GL} {i : Nat} {x q : Nat × Nat × ((Nat → Int32) → va_E)} (hq : q ∈ L.set i x) : q ∈ L ∨ q = x := List.mem_or_eq_of_mem_set hq
theorem bs_only (hnd : (gK (bsL g A S P Y)).Nodup) {i a k : Nat} {mk : (Nat → Int32) → va_E} (hi : (bsL g A S P Y)[i]? = some (a, k, mk)) {q : Nat × Nat × ((Nat → Int32) → va_E)} (hq : q ∈ bsL g A S P Y) (e : q.1 = a) : q = (a, k, mk) := by
  obtain ⟨j, hj⟩ := List.getElem?_of_mem hq
  by_cases c : j = i
  · rw [c, hi] at hj; exact (Option.some.inj hj).symm
  · obtain ⟨qa, qk, qm⟩ := q
    exact absurd e (gK_ne hnd hj hi c)
set_option maxRecDepth 4000 in
theorem keep_W {s' : Nat → Option (Nat × Nat)} (hnd : (gK (bsL g A S P Y)).Nodup) (W : Wld g A S P Y Z h) (r : PutR g (A 304) (S 0) (kpP Z) (Z 302) (fun x => x = A 303) h h' s') (ha : h' (A 303) = some (.inr (0, [.int (nI (kpN (pN Z 303 0) + 1)), .int (nI (kpF (pN Z 303 0) (pN Z 303 1))), .ref (A 304)]))) : Wld g A (sS S s') P Y (kpZ Z) h' ∧ CFr A S h (sS S s') h' := by
  have hp := kpP_lt Z
  have hs : h (A 304) = some (stA g (S 0)) := W.1.mem (q := (A 304, 304, fun _ => stA g (S 0))) (List.mem_of_getElem? (i := 35) rfl)
  have h3 : h (A 303) = some (.inr (0, [.int (Z 303 0), .int (Z 303 1), .ref (A 304)])) := W.1.mem (q := (A 303, 303, fun f => .inr (0, [.int (f 0), .int (f 1), .ref (A 304)]))) (List.mem_of_getElem? (i := 34) rfl)
  obtain ⟨hC, hF⟩ := r.hc hs W.2.1.1 (fun x e => by subst e; exact ⟨⟨_, h3⟩, _, ha⟩)
  have z3 : kpZ Z 303 = upd (upd (Z 303) 0 (nI (kpN (pN Z 303 0) + 1))) 1 (nI (kpF (pN Z 303 0) (pN Z 303 1))) := by
    unfold kpZ; rw [up_ne (by omega) rfl, u2_e, u2_e]
  have fresh : ∀ p o c, s' p = some (o, c) → o ∉ bsA A ∧ c ∉ bsA A := fun p o c q => by
    rcases hF.2.1 p o c q with q' | ⟨q1, q2⟩
    · exact W.2.2.2 0 p o c (by decide) q'
    · refine ⟨fun hx => ?_, fun hx => ?_⟩
      · obtain ⟨e, he⟩ := W.dom o hx; exact q1 e he
      · obtain ⟨e, he⟩ := W.dom c hx; exact q2 e he
  have dj : ∀ p o c p' o' c', s' p = some (o, c) → S 1 p' = some (o', c') → c ≠ c' := fun p o c p' o' c' q q' => by
    rcases hF.2.1 p o c q with r | ⟨-, q2⟩
    · exact W.2.2.1 p o c p' o' c' r q'
    · exact (ne_of (W.2.1.2.1 p' o' c' q').2 q2).symm
  have mA : ∀ x, x = A 303 ∨ x = A 304 → x ∈ bsA A := fun x q => by
    rw [← bs_gK g A S P Y]
    rcases q with q | q
    · rw [q]; exact List.mem_of_getElem? (i := 34) rfl
    · rw [q]; exact List.mem_of_getElem? (i := 35) rfl
  refine ⟨⟨?_, ⟨?_, ?_⟩, fun p o c p' o' c' q q' => dj p o c p' o' c' q q', fun m p o c hm q => ?_⟩, fun m p o c hm q => ?_, fun x e q hX hc => ?_, hF.2.2.2⟩
  · have eS : bsL g A (sS S s') P Y = (bsL g A S P Y).set 35 (A 304, 304, fun _ => stA g s') := rfl
    refine W.1.upd (fun x => x = A 303 ∨ x = A 304) (fun q hq hX => ⟨kz_k (fun c => ?_) (by have := bs_lt q hq; omega), ?_⟩) (fun q hq hX => ?_) (fun q hq hX => ?_)
    · obtain ⟨j, hj⟩ := List.getElem?_of_mem hq
      have hx : (gX (bsL g A S P Y))[j]? = some q.2.1 := by unfold gX; rw [List.getElem?_map, hj]; rfl
      have hx2 : (gX (bsL g A S P Y))[34]? = some 303 := rfl
      have ej : j = 34 := (List.getElem?_inj (List.getElem?_eq_some_iff.mp hx).1 (bs_x g A S P Y)).mp (by rw [hx, hx2, c])
      rw [ej] at hj
      have : q = (A 303, 303, fun f => .inr (0, [.int (f 0), .int (f 1), .ref (A 304)])) := (Option.some.inj hj).symm
      exact hX (Or.inl (by rw [this]))
    · have m := W.1.mem hq
      rw [hF.2.2.1 q.1 _ m hX (fun p o c r => fun e => (W.2.2.2 0 p o c (by decide) r).2 (by rw [← e, ← bs_gK g A S P Y]; exact List.mem_map.mpr ⟨q, hq, rfl⟩)), m]
    · by_cases c3 : q.1 = A 303
      · have := bs_only (S := sS S s') hnd (i := 34) rfl hq c3
        rw [this, z3]; exact ha
      · have := bs_only (S := sS S s') hnd (i := 35) rfl hq (hX.resolve_left c3)
        rw [this]; exact r.1
    · rw [eS] at hq
      rcases set_mem hq with c | c
      · exact c
      · exact absurd (Or.inr (by rw [c])) hX
  · refine hC.cg (fun p => ?_) (fun _ _ _ _ => ⟨rfl, rfl⟩)
    by_cases c : p = kpP Z
    · rw [c, up_same]; unfold kpZ; rw [up_same]
    · rw [up_ne c rfl]; exact kz_k (by omega) (by omega)
  · refine W.2.1.2.cg (fun p => kz_k (by omega) (by omega)) (fun p o c q => ?_)
    obtain ⟨k1, k2⟩ := W.2.1.2.1 p o c q
    obtain ⟨n1, n2⟩ := W.2.2.2 1 p o c (by decide) q
    rw [hF.2.2.1 o _ k1 (fun z => n1 (mA _ z)) (fun p' o' c' r => ne_c k1 (W.2.1.1.1 p' o' c' r).2 (by simp)), k1]
    rw [hF.2.2.1 c _ k2 (fun z => n2 (mA _ z)) (fun p' o' c' r => (W.2.2.1 p' o' c' p o c r q).symm), k2]
    exact ⟨rfl, rfl⟩
  · rcases (by omega : m = 0 ∨ m = 1) with rfl | rfl
    · exact fresh p o c q
    · exact W.2.2.2 1 p o c (by decide) q
  · rcases (by omega : m = 0 ∨ m = 1) with rfl | rfl
    · exact hF.2.1 p o c q
    · exact Or.inl q
  · exact hF.2.2.1 x e q (fun z => hX (mA _ z)) (fun p o c r => hc 0 p o c (by decide) r)
/-- what is counted as kept is there -/
def HiL (Z : Nat → Nat → Int32) (S : SA) : Prop := ∀ k, k < pN Z 303 0 → S 0 ((pN Z 303 1 + k) % 40) ≠ none
theorem HiL.cg {Z Z' : Nat → Nat → Int32} {S : SA} (hL : HiL Z S) (e : Z' 303 = Z 303) : HiL Z' S := by
  unfold HiL pN at *; rw [e]; exact hL
theorem keep_L {s' : Nat → Option (Nat × Nat)} {sts : Nat} {ex : Nat → Prop} {F : Nat → Int32} (hA : HiI Z 303) (r : PutR g sts (S 0) (kpP Z) F ex h h' s') (hL : HiL Z S) : HiL (kpZ Z) (sS S s') := by
  obtain ⟨-, o1, c1, e1, -⟩ := r
  obtain ⟨⟨-, hn⟩, -, hf⟩ := hA
  have z3 : kpZ Z 303 = upd (upd (Z 303) 0 (nI (kpN (pN Z 303 0) + 1))) 1 (nI (kpF (pN Z 303 0) (pN Z 303 1))) := by
    unfold kpZ; rw [up_ne (by have := kpP_lt Z; omega) rfl, u2_e, u2_e]
  have b1 : kpN (pN Z 303 0) + 1 ≤ 40 := by unfold kpN; split <;> omega
  have b2 : kpF (pN Z 303 0) (pN Z 303 1) < 40 := by unfold kpF; split <;> omega
  have p0 : pN (kpZ Z) 303 0 = kpN (pN Z 303 0) + 1 := by
    show (kpZ Z 303 0).toNatClampNeg = _
    rw [z3]; exact nI_clamp (n := kpN (pN Z 303 0) + 1) (by omega)
  have p1 : pN (kpZ Z) 303 1 = kpF (pN Z 303 0) (pN Z 303 1) := by
    show (kpZ Z 303 1).toNatClampNeg = _
    rw [z3]; exact nI_clamp (n := kpF (pN Z 303 0) (pN Z 303 1)) (by omega)
  intro k hk
  rw [p0] at hk
  rw [p1]
  show s' _ ≠ none
  rw [e1]
  by_cases c : (kpF (pN Z 303 0) (pN Z 303 1) + k) % 40 = kpP Z
  · rw [c, up_same]; exact Option.some_ne_none _
  · rw [up_ne c rfl]
    have hk2 : k ≠ kpN (pN Z 303 0) := fun e => c (by rw [e]; rfl)
    by_cases c4 : pN Z 303 0 = 40
    · have q := hL (k + 1) (by unfold kpN at hk hk2; rw [if_pos c4] at hk hk2; omega)
      have e : (kpF (pN Z 303 0) (pN Z 303 1) + k) % 40 = (pN Z 303 1 + (k + 1)) % 40 := by unfold kpF; rw [if_pos c4]; omega
      rw [e]; exact q
    · have q := hL k (by unfold kpN at hk hk2; rw [if_neg c4] at hk hk2; omega)
      have e : kpF (pN Z 303 0) (pN Z 303 1) = pN Z 303 1 := by unfold kpF; rw [if_neg c4]
      rw [e]; exact q
theorem q_keepActW (hst : (gl g).stackTraces = false) (hnd : (gK (bsL g A S P Y)).Nodup) (W : Wld g A S P Y Z h) (hA : HiI Z 303) : PM g M_Memory_keepAct 4 2 226 [.ref (A 300)] h (fun r h' => r = .inl none ∧ ∃ s', Wld g A (sS S s') P Y (kpZ Z) h' ∧ CFr A S h (sS S s') h' ∧ (HiL Z S → HiL (kpZ Z) (sS S s'))) := by
  have hm : h (A 300) = some (.inr (3, [.ref (A 301), .ref (A 303), .ref (A 310), .ref (A 305)])) := W.1.mem (q := (A 300, 300, fun _ => .inr (3, [.ref (A 301), .ref (A 303), .ref (A 310), .ref (A 305)]))) (List.mem_of_getElem? (i := 31) rfl)
  have h1 : h (A 301) = some (.inr (8, [.ref (A 302)])) := W.1.mem (q := (A 301, 301, fun _ => .inr (8, [.ref (A 302)]))) (List.mem_of_getElem? (i := 32) rfl)
  have h2 : h (A 302) = some (aI g 225 (Z 302)) := W.1.mem (q := (A 302, 302, aI g 225)) (List.mem_of_getElem? (i := 33) rfl)
  have hs : h (A 304) = some (stA g (S 0)) := W.1.mem (q := (A 304, 304, fun _ => stA g (S 0))) (List.mem_of_getElem? (i := 35) rfl)
  have h3 : h (A 303) = some (.inr (0, [.int (nI (pN Z 303 0)), .int (nI (pN Z 303 1)), .ref (A 304)])) := by
    have q := W.1.mem (q := (A 303, 303, fun f => .inr (0, [.int (f 0), .int (f 1), .ref (A 304)]))) (List.mem_of_getElem? (i := 34) rfl)
    rw [← hA.1.1, ← hA.2.1]; exact q
  refine PM.of hst (by decide) rfl (fun v hv => ?_) (Nat.le_of_ble_eq_true rfl) ?_
  · simp only [List.mem_cons, List.not_mem_nil, or_false] at hv; rcases hv with rfl <;> rfl
  · refine pw_aload_n e_Memory_keepAct_0 rfl ?_
    refine pw_getf e_Memory_keepAct_1 fl_Memory_21 hm rfl ?_
    refine pw_aload_n e_Memory_keepAct_4 rfl ?_
    refine pw_getf e_Memory_keepAct_5 fl_Memory_12 hm rfl ?_
    refine pw_callV (kc := 0) (ks := 0) (As := [.ref (A 301)]) e_Memory_keepAct_8 li_Memory_36 rfl h3 (q_History_keep hst hA.1.2 hA.2.2 h3 hs h1 h2 (fun p o c q => ⟨(W.2.1.1.1 p o c q).1, _, (W.2.1.1.1 p o c q).2⟩)) rfl (by decide) (Nat.le_of_ble_eq_true rfl) (fun E h' q => absurd q.1 (by simp)) (fun v h1 hq => ?_)
    obtain ⟨hv, s', hP, ha⟩ := hq
    cases hv
    refine pw_vret e_Memory_keepAct_11 rfl ?_
    exact ⟨rfl, s', (keep_W hnd W hP ha).1, (keep_W hnd W hP ha).2, keep_L hA hP⟩
end
