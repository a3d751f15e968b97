/-! the plan as it lies in the heap (written by wip/whole/gen_plan.py) -/
def pN (P : Nat → Nat → Int32) (k i : Nat) : Nat := (P k i).toNatClampNeg
def Pl0 (g : GG) (p : Nat) (ad : Nat → Nat) (P : Nat → Nat → Int32) (h : Hp) : Prop :=
  h p = some (.inr (5, [.int (P 30 0), .int (P 30 1), .int (P 30 2), .int (P 30 3), .ref (ad 0), .ref (ad 1), .ref (ad 2), .ref (ad 3), .ref (ad 4), .ref (ad 5), .ref (ad 6), .ref (ad 7), .ref (ad 8), .ref (ad 9), .ref (ad 10), .ref (ad 11), .ref (ad 25), .ref (ad 26), .ref (ad 27)])) ∧
  h (ad 25) = some (.inr (2, [.int (P 31 0), .ref (ad 12), .ref (ad 13), .ref (ad 14)])) ∧
  h (ad 26) = some (.inr (6, [.ref (ad 15), .ref (ad 16), .ref (ad 17)])) ∧
  h (ad 0) = some (aI g 10 (P 0)) ∧
  h (ad 1) = some (aI g 10 (P 1)) ∧
  h (ad 2) = some (aI g 10 (P 2)) ∧
  h (ad 3) = some (aI g 10 (P 3)) ∧
  h (ad 4) = some (aI g 10 (P 4)) ∧
  h (ad 5) = some (aI g 10 (P 5)) ∧
  h (ad 6) = some (aI g 10 (P 6)) ∧
  h (ad 7) = some (aI g 10 (P 7)) ∧
  h (ad 8) = some (aZ g 10 (P 8)) ∧
  h (ad 9) = some (aZ g 10 (P 9)) ∧
  h (ad 10) = some (aI g 30 (P 10)) ∧
  h (ad 11) = some (aI g 10 (P 11)) ∧
  h (ad 12) = some (aI g 12 (P 12)) ∧
  h (ad 13) = some (aI g 12 (P 13)) ∧
  h (ad 14) = some (aI g 12 (P 14)) ∧
  h (ad 15) = some (aI g 4 (P 15)) ∧
  h (ad 16) = some (aI g 4 (P 16)) ∧
  h (ad 17) = some (aI g 4 (P 17))
theorem Pl0.o {g : GG} {p : Nat} {ad : Nat → Nat} {P : Nat → Nat → Int32} {h : Hp} (H : Pl0 g p ad P h) : h p = some (.inr (5, [.int (P 30 0), .int (P 30 1), .int (P 30 2), .int (P 30 3), .ref (ad 0), .ref (ad 1), .ref (ad 2), .ref (ad 3), .ref (ad 4), .ref (ad 5), .ref (ad 6), .ref (ad 7), .ref (ad 8), .ref (ad 9), .ref (ad 10), .ref (ad 11), .ref (ad 25), .ref (ad 26), .ref (ad 27)])) := H.1
theorem Pl0.k {g : GG} {p : Nat} {ad : Nat → Nat} {P : Nat → Nat → Int32} {h : Hp} (H : Pl0 g p ad P h) : h (ad 25) = some (.inr (2, [.int (P 31 0), .ref (ad 12), .ref (ad 13), .ref (ad 14)])) := H.2.1
theorem Pl0.l {g : GG} {p : Nat} {ad : Nat → Nat} {P : Nat → Nat → Int32} {h : Hp} (H : Pl0 g p ad P h) : h (ad 26) = some (.inr (6, [.ref (ad 15), .ref (ad 16), .ref (ad 17)])) := H.2.2.1
theorem Pl0.a0 {g : GG} {p : Nat} {ad : Nat → Nat} {P : Nat → Nat → Int32} {h : Hp} (H : Pl0 g p ad P h) : h (ad 0) = some (aI g 10 (P 0)) := H.2.2.2.1
theorem Pl0.a1 {g : GG} {p : Nat} {ad : Nat → Nat} {P : Nat → Nat → Int32} {h : Hp} (H : Pl0 g p ad P h) : h (ad 1) = some (aI g 10 (P 1)) := H.2.2.2.2.1
theorem Pl0.a2 {g : GG} {p : Nat} {ad : Nat → Nat} {P : Nat → Nat → Int32} {h : Hp} (H : Pl0 g p ad P h) : h (ad 2) = some (aI g 10 (P 2)) := H.2.2.2.2.2.1
theorem Pl0.a3 {g : GG} {p : Nat} {ad : Nat → Nat} {P : Nat → Nat → Int32} {h : Hp} (H : Pl0 g p ad P h) : h (ad 3) = some (aI g 10 (P 3)) := H.2.2.2.2.2.2.1
theorem Pl0.a4 {g : GG} {p : Nat} {ad : Nat → Nat} {P : Nat → Nat → Int32} {h : Hp} (H : Pl0 g p ad P h) : h (ad 4) = some (aI g 10 (P 4)) := H.2.2.2.2.2.2.2.1
theorem Pl0.a5 {g : GG} {p : Nat} {ad : Nat → Nat} {P : Nat → Nat → Int32} {h : Hp} (H : Pl0 g p ad P h) : h (ad 5) = some (aI g 10 (P 5)) := H.2.2.2.2.2.2.2.2.1
theorem Pl0.a6 {g : GG} {p : Nat} {ad : Nat → Nat} {P : Nat → Nat → Int32} {h : Hp} (H : Pl0 g p ad P h) : h (ad 6) = some (aI g 10 (P 6)) := H.2.2.2.2.2.2.2.2.2.1
theorem Pl0.a7 {g : GG} {p : Nat} {ad : Nat → Nat} {P : Nat → Nat → Int32} {h : Hp} (H : Pl0 g p ad P h) : h (ad 7) = some (aI g 10 (P 7)) := H.2.2.2.2.2.2.2.2.2.2.1
theorem Pl0.a8 {g : GG} {p : Nat} {ad : Nat → Nat} {P : Nat → Nat → Int32} {h : Hp} (H : Pl0 g p ad P h) : h (ad 8) = some (aZ g 10 (P 8)) := H.2.2.2.2.2.2.2.2.2.2.2.1
theorem Pl0.a9 {g : GG} {p : Nat} {ad : Nat → Nat} {P : Nat → Nat → Int32} {h : Hp} (H : Pl0 g p ad P h) : h (ad 9) = some (aZ g 10 (P 9)) := H.2.2.2.2.2.2.2.2.2.2.2.2.1
theorem Pl0.a10 {g : GG} {p : Nat} {ad : Nat → Nat} {P : Nat → Nat → Int32} {h : Hp} (H : Pl0 g p ad P h) : h (ad 10) = some (aI g 30 (P 10)) := H.2.2.2.2.2.2.2.2.2.2.2.2.2.1
theorem Pl0.a11 {g : GG} {p : Nat} {ad : Nat → Nat} {P : Nat → Nat → Int32} {h : Hp} (H : Pl0 g p ad P h) : h (ad 11) = some (aI g 10 (P 11)) := H.2.2.2.2.2.2.2.2.2.2.2.2.2.2.1
theorem Pl0.a12 {g : GG} {p : Nat} {ad : Nat → Nat} {P : Nat → Nat → Int32} {h : Hp} (H : Pl0 g p ad P h) : h (ad 12) = some (aI g 12 (P 12)) := H.2.2.2.2.2.2.2.2.2.2.2.2.2.2.2.1
theorem Pl0.a13 {g : GG} {p : Nat} {ad : Nat → Nat} {P : Nat → Nat → Int32} {h : Hp} (H : Pl0 g p ad P h) : h (ad 13) = some (aI g 12 (P 13)) := H.2.2.2.2.2.2.2.2.2.2.2.2.2.2.2.2.1
theorem Pl0.a14 {g : GG} {p : Nat} {ad : Nat → Nat} {P : Nat → Nat → Int32} {h : Hp} (H : Pl0 g p ad P h) : h (ad 14) = some (aI g 12 (P 14)) := H.2.2.2.2.2.2.2.2.2.2.2.2.2.2.2.2.2.1
theorem Pl0.a15 {g : GG} {p : Nat} {ad : Nat → Nat} {P : Nat → Nat → Int32} {h : Hp} (H : Pl0 g p ad P h) : h (ad 15) = some (aI g 4 (P 15)) := H.2.2.2.2.2.2.2.2.2.2.2.2.2.2.2.2.2.2.1
theorem Pl0.a16 {g : GG} {p : Nat} {ad : Nat → Nat} {P : Nat → Nat → Int32} {h : Hp} (H : Pl0 g p ad P h) : h (ad 16) = some (aI g 4 (P 16)) := H.2.2.2.2.2.2.2.2.2.2.2.2.2.2.2.2.2.2.2.1
theorem Pl0.a17 {g : GG} {p : Nat} {ad : Nat → Nat} {P : Nat → Nat → Int32} {h : Hp} (H : Pl0 g p ad P h) : h (ad 17) = some (aI g 4 (P 17)) := H.2.2.2.2.2.2.2.2.2.2.2.2.2.2.2.2.2.2.2.2
def PlanAt (g : GG) (p : Nat) (ad : Nat → Nat) (P : Nat → Nat → Int32) (h : Hp) : Prop :=
  h p = some (.inr (5, [.int (P 30 0), .int (P 30 1), .int (P 30 2), .int (P 30 3), .ref (ad 0), .ref (ad 1), .ref (ad 2), .ref (ad 3), .ref (ad 4), .ref (ad 5), .ref (ad 6), .ref (ad 7), .ref (ad 8), .ref (ad 9), .ref (ad 10), .ref (ad 11), .ref (ad 25), .ref (ad 26), .ref (ad 27)])) ∧
  h (ad 25) = some (.inr (2, [.int (P 31 0), .ref (ad 12), .ref (ad 13), .ref (ad 14)])) ∧
  h (ad 26) = some (.inr (6, [.ref (ad 15), .ref (ad 16), .ref (ad 17)])) ∧
  h (ad 27) = some (.inr (1, [.int (P 32 0), .int (P 32 1), .int (P 32 2), .ref (ad 18), .ref (ad 19), .ref (ad 20), .ref (ad 21), .ref (ad 22), .ref (ad 23), .ref (ad 24)])) ∧
  h (ad 0) = some (aI g 10 (P 0)) ∧
  h (ad 1) = some (aI g 10 (P 1)) ∧
  h (ad 2) = some (aI g 10 (P 2)) ∧
  h (ad 3) = some (aI g 10 (P 3)) ∧
  h (ad 4) = some (aI g 10 (P 4)) ∧
  h (ad 5) = some (aI g 10 (P 5)) ∧
  h (ad 6) = some (aI g 10 (P 6)) ∧
  h (ad 7) = some (aI g 10 (P 7)) ∧
  h (ad 8) = some (aZ g 10 (P 8)) ∧
  h (ad 9) = some (aZ g 10 (P 9)) ∧
  h (ad 10) = some (aI g 30 (P 10)) ∧
  h (ad 11) = some (aI g 10 (P 11)) ∧
  h (ad 12) = some (aI g 12 (P 12)) ∧
  h (ad 13) = some (aI g 12 (P 13)) ∧
  h (ad 14) = some (aI g 12 (P 14)) ∧
  h (ad 15) = some (aI g 4 (P 15)) ∧
  h (ad 16) = some (aI g 4 (P 16)) ∧
  h (ad 17) = some (aI g 4 (P 17)) ∧
  h (ad 18) = some (aI g 10 (P 18)) ∧
  h (ad 19) = some (aI g 10 (P 19)) ∧
  h (ad 20) = some (aI g 10 (P 20)) ∧
  h (ad 21) = some (aI g 10 (P 21)) ∧
  h (ad 22) = some (aI g 12 (P 22)) ∧
  h (ad 23) = some (aI g 12 (P 23)) ∧
  h (ad 24) = some (aI g 5 (P 24))
theorem PlanAt.o {g : GG} {p : Nat} {ad : Nat → Nat} {P : Nat → Nat → Int32} {h : Hp} (H : PlanAt g p ad P h) : h p = some (.inr (5, [.int (P 30 0), .int (P 30 1), .int (P 30 2), .int (P 30 3), .ref (ad 0), .ref (ad 1), .ref (ad 2), .ref (ad 3), .ref (ad 4), .ref (ad 5), .ref (ad 6), .ref (ad 7), .ref (ad 8), .ref (ad 9), .ref (ad 10), .ref (ad 11), .ref (ad 25), .ref (ad 26), .ref (ad 27)])) := H.1
theorem PlanAt.k {g : GG} {p : Nat} {ad : Nat → Nat} {P : Nat → Nat → Int32} {h : Hp} (H : PlanAt g p ad P h) : h (ad 25) = some (.inr (2, [.int (P 31 0), .ref (ad 12), .ref (ad 13), .ref (ad 14)])) := H.2.1
theorem PlanAt.l {g : GG} {p : Nat} {ad : Nat → Nat} {P : Nat → Nat → Int32} {h : Hp} (H : PlanAt g p ad P h) : h (ad 26) = some (.inr (6, [.ref (ad 15), .ref (ad 16), .ref (ad 17)])) := H.2.2.1
theorem PlanAt.y {g : GG} {p : Nat} {ad : Nat → Nat} {P : Nat → Nat → Int32} {h : Hp} (H : PlanAt g p ad P h) : h (ad 27) = some (.inr (1, [.int (P 32 0), .int (P 32 1), .int (P 32 2), .ref (ad 18), .ref (ad 19), .ref (ad 20), .ref (ad 21), .ref (ad 22), .ref (ad 23), .ref (ad 24)])) := H.2.2.2.1
theorem PlanAt.a0 {g : GG} {p : Nat} {ad : Nat → Nat} {P : Nat → Nat → Int32} {h : Hp} (H : PlanAt g p ad P h) : h (ad 0) = some (aI g 10 (P 0)) := H.2.2.2.2.1
theorem PlanAt.a1 {g : GG} {p : Nat} {ad : Nat → Nat} {P : Nat → Nat → Int32} {h : Hp} (H : PlanAt g p ad P h) : h (ad 1) = some (aI g 10 (P 1)) := H.2.2.2.2.2.1
theorem PlanAt.a2 {g : GG} {p : Nat} {ad : Nat → Nat} {P : Nat → Nat → Int32} {h : Hp} (H : PlanAt g p ad P h) : h (ad 2) = some (aI g 10 (P 2)) := H.2.2.2.2.2.2.1
theorem PlanAt.a3 {g : GG} {p : Nat} {ad : Nat → Nat} {P : Nat → Nat → Int32} {h : Hp} (H : PlanAt g p ad P h) : h (ad 3) = some (aI g 10 (P 3)) := H.2.2.2.2.2.2.2.1
theorem PlanAt.a4 {g : GG} {p : Nat} {ad : Nat → Nat} {P : Nat → Nat → Int32} {h : Hp} (H : PlanAt g p ad P h) : h (ad 4) = some (aI g 10 (P 4)) := H.2.2.2.2.2.2.2.2.1
theorem PlanAt.a5 {g : GG} {p : Nat} {ad : Nat → Nat} {P : Nat → Nat → Int32} {h : Hp} (H : PlanAt g p ad P h) : h (ad 5) = some (aI g 10 (P 5)) := H.2.2.2.2.2.2.2.2.2.1
theorem PlanAt.a6 {g : GG} {p : Nat} {ad : Nat → Nat} {P : Nat → Nat → Int32} {h : Hp} (H : PlanAt g p ad P h) : h (ad 6) = some (aI g 10 (P 6)) := H.2.2.2.2.2.2.2.2.2.2.1
theorem PlanAt.a7 {g : GG} {p : Nat} {ad : Nat → Nat} {P : Nat → Nat → Int32} {h : Hp} (H : PlanAt g p ad P h) : h (ad 7) = some (aI g 10 (P 7)) := H.2.2.2.2.2.2.2.2.2.2.2.1
theorem PlanAt.a8 {g : GG} {p : Nat} {ad : Nat → Nat} {P : Nat → Nat → Int32} {h : Hp} (H : PlanAt g p ad P h) : h (ad 8) = some (aZ g 10 (P 8)) := H.2.2.2.2.2.2.2.2.2.2.2.2.1
theorem PlanAt.a9 {g : GG} {p : Nat} {ad : Nat → Nat} {P : Nat → Nat → Int32} {h : Hp} (H : PlanAt g p ad P h) : h (ad 9) = some (aZ g 10 (P 9)) := H.2.2.2.2.2.2.2.2.2.2.2.2.2.1
theorem PlanAt.a10 {g : GG} {p : Nat} {ad : Nat → Nat} {P : Nat → Nat → Int32} {h : Hp} (H : PlanAt g p ad P h) : h (ad 10) = some (aI g 30 (P 10)) := H.2.2.2.2.2.2.2.2.2.2.2.2.2.2.1
theorem PlanAt.a11 {g : GG} {p : Nat} {ad : Nat → Nat} {P : Nat → Nat → Int32} {h : Hp} (H : PlanAt g p ad P h) : h (ad 11) = some (aI g 10 (P 11)) := H.2.2.2.2.2.2.2.2.2.2.2.2.2.2.2.1
theorem PlanAt.a12 {g : GG} {p : Nat} {ad : Nat → Nat} {P : Nat → Nat → Int32} {h : Hp} (H : PlanAt g p ad P h) : h (ad 12) = some (aI g 12 (P 12)) := H.2.2.2.2.2.2.2.2.2.2.2.2.2.2.2.2.1
theorem PlanAt.a13 {g : GG} {p : Nat} {ad : Nat → Nat} {P : Nat → Nat → Int32} {h : Hp} (H : PlanAt g p ad P h) : h (ad 13) = some (aI g 12 (P 13)) := H.2.2.2.2.2.2.2.2.2.2.2.2.2.2.2.2.2.1
theorem PlanAt.a14 {g : GG} {p : Nat} {ad : Nat → Nat} {P : Nat → Nat → Int32} {h : Hp} (H : PlanAt g p ad P h) : h (ad 14) = some (aI g 12 (P 14)) := H.2.2.2.2.2.2.2.2.2.2.2.2.2.2.2.2.2.2.1
theorem PlanAt.a15 {g : GG} {p : Nat} {ad : Nat → Nat} {P : Nat → Nat → Int32} {h : Hp} (H : PlanAt g p ad P h) : h (ad 15) = some (aI g 4 (P 15)) := H.2.2.2.2.2.2.2.2.2.2.2.2.2.2.2.2.2.2.2.1
theorem PlanAt.a16 {g : GG} {p : Nat} {ad : Nat → Nat} {P : Nat → Nat → Int32} {h : Hp} (H : PlanAt g p ad P h) : h (ad 16) = some (aI g 4 (P 16)) := H.2.2.2.2.2.2.2.2.2.2.2.2.2.2.2.2.2.2.2.2.1
theorem PlanAt.a17 {g : GG} {p : Nat} {ad : Nat → Nat} {P : Nat → Nat → Int32} {h : Hp} (H : PlanAt g p ad P h) : h (ad 17) = some (aI g 4 (P 17)) := H.2.2.2.2.2.2.2.2.2.2.2.2.2.2.2.2.2.2.2.2.2.1
theorem PlanAt.a18 {g : GG} {p : Nat} {ad : Nat → Nat} {P : Nat → Nat → Int32} {h : Hp} (H : PlanAt g p ad P h) : h (ad 18) = some (aI g 10 (P 18)) := H.2.2.2.2.2.2.2.2.2.2.2.2.2.2.2.2.2.2.2.2.2.2.1
theorem PlanAt.a19 {g : GG} {p : Nat} {ad : Nat → Nat} {P : Nat → Nat → Int32} {h : Hp} (H : PlanAt g p ad P h) : h (ad 19) = some (aI g 10 (P 19)) := H.2.2.2.2.2.2.2.2.2.2.2.2.2.2.2.2.2.2.2.2.2.2.2.1
theorem PlanAt.a20 {g : GG} {p : Nat} {ad : Nat → Nat} {P : Nat → Nat → Int32} {h : Hp} (H : PlanAt g p ad P h) : h (ad 20) = some (aI g 10 (P 20)) := H.2.2.2.2.2.2.2.2.2.2.2.2.2.2.2.2.2.2.2.2.2.2.2.2.1
theorem PlanAt.a21 {g : GG} {p : Nat} {ad : Nat → Nat} {P : Nat → Nat → Int32} {h : Hp} (H : PlanAt g p ad P h) : h (ad 21) = some (aI g 10 (P 21)) := H.2.2.2.2.2.2.2.2.2.2.2.2.2.2.2.2.2.2.2.2.2.2.2.2.2.1
theorem PlanAt.a22 {g : GG} {p : Nat} {ad : Nat → Nat} {P : Nat → Nat → Int32} {h : Hp} (H : PlanAt g p ad P h) : h (ad 22) = some (aI g 12 (P 22)) := H.2.2.2.2.2.2.2.2.2.2.2.2.2.2.2.2.2.2.2.2.2.2.2.2.2.2.1
theorem PlanAt.a23 {g : GG} {p : Nat} {ad : Nat → Nat} {P : Nat → Nat → Int32} {h : Hp} (H : PlanAt g p ad P h) : h (ad 23) = some (aI g 12 (P 23)) := H.2.2.2.2.2.2.2.2.2.2.2.2.2.2.2.2.2.2.2.2.2.2.2.2.2.2.2.1
theorem PlanAt.a24 {g : GG} {p : Nat} {ad : Nat → Nat} {P : Nat → Nat → Int32} {h : Hp} (H : PlanAt g p ad P h) : h (ad 24) = some (aI g 5 (P 24)) := H.2.2.2.2.2.2.2.2.2.2.2.2.2.2.2.2.2.2.2.2.2.2.2.2.2.2.2.2
theorem PlanAt.p0 {g : GG} {p : Nat} {ad : Nat → Nat} {P : Nat → Nat → Int32} {h : Hp} (H : PlanAt g p ad P h) : Pl0 g p ad P h := ⟨H.o, H.k, H.l, H.a0, H.a1, H.a2, H.a3, H.a4, H.a5, H.a6, H.a7, H.a8, H.a9, H.a10, H.a11, H.a12, H.a13, H.a14, H.a15, H.a16, H.a17⟩
theorem upP {g : GG} {p s : Nat} {ad : Nat → Nat} {P : Nat → Nat → Int32} {h : Hp} (H : ∀ e, PlanAt g p ad P (va_up h s e)) (x : Option va_E) : ∀ e, PlanAt g p ad P (va_up (va_up h s x) s e) := fun e => by rw [up_up]; exact H e
theorem PlanAt.up {g : GG} {p s : Nat} {ad : Nat → Nat} {P : Nat → Nat → Int32} {h : Hp} (H : PlanAt g p ad P h) (h0 : p ≠ s) (h1 : ∀ k, k < 28 → ad k ≠ s) (e : Option va_E) : PlanAt g p ad P (va_up h s e) := by
  refine ⟨up_ne h0 H.o, up_ne (h1 25 (by decide)) H.k, up_ne (h1 26 (by decide)) H.l, up_ne (h1 27 (by decide)) H.y, up_ne (h1 0 (by decide)) H.a0, up_ne (h1 1 (by decide)) H.a1, up_ne (h1 2 (by decide)) H.a2, up_ne (h1 3 (by decide)) H.a3, up_ne (h1 4 (by decide)) H.a4, up_ne (h1 5 (by decide)) H.a5, up_ne (h1 6 (by decide)) H.a6, up_ne (h1 7 (by decide)) H.a7, up_ne (h1 8 (by decide)) H.a8, up_ne (h1 9 (by decide)) H.a9, up_ne (h1 10 (by decide)) H.a10, up_ne (h1 11 (by decide)) H.a11, up_ne (h1 12 (by decide)) H.a12, up_ne (h1 13 (by decide)) H.a13, up_ne (h1 14 (by decide)) H.a14, up_ne (h1 15 (by decide)) H.a15, up_ne (h1 16 (by decide)) H.a16, up_ne (h1 17 (by decide)) H.a17, up_ne (h1 18 (by decide)) H.a18, up_ne (h1 19 (by decide)) H.a19, up_ne (h1 20 (by decide)) H.a20, up_ne (h1 21 (by decide)) H.a21, up_ne (h1 22 (by decide)) H.a22, up_ne (h1 23 (by decide)) H.a23, up_ne (h1 24 (by decide)) H.a24⟩
def isN (P : Nat → Nat → Int32) (k b : Nat) : Prop := ∀ i, P k i = nI (pN P k i) ∧ pN P k i < b
def isM (P : Nat → Nat → Int32) (k b : Nat) : Prop := ∀ i, P k i = -1 ∨ (P k i = nI (pN P k i) ∧ pN P k i < b)
def wfQ (P : Nat → Nat → Int32) : Prop := (isN P 0 4) ∧ (isN P 1 5) ∧ (isN P 12 10) ∧ (isN P 13 10) ∧ (isN P 14 3) ∧ (P 30 3 = nI (pN P 30 3) ∧ pN P 30 3 < 11) ∧ (P 31 0 = nI (pN P 31 0) ∧ pN P 31 0 < 13) ∧ (P 30 0 = nI (pN P 30 0) ∧ pN P 30 0 < 6) ∧ (isM P 10 12) ∧ (isM P 11 12) ∧ (∀ i, i < pN P 30 3 → pN P 0 i = 0 → P 3 i = nI (pN P 3 i) ∧ pN P 3 i < 4)
theorem wfQ.kind {P : Nat → Nat → Int32} (H : wfQ P) : isN P 0 4 := H.1
theorem wfQ.dev {P : Nat → Nat → Int32} (H : wfQ P) : isN P 1 5 := H.2.1
theorem wfQ.frm {P : Nat → Nat → Int32} (H : wfQ P) : isN P 12 10 := H.2.2.1
theorem wfQ.to {P : Nat → Nat → Int32} (H : wfQ P) : isN P 13 10 := H.2.2.2.1
theorem wfQ.whr {P : Nat → Nat → Int32} (H : wfQ P) : isN P 14 3 := H.2.2.2.2.1
theorem wfQ.blk {P : Nat → Nat → Int32} (H : wfQ P) : P 30 3 = nI (pN P 30 3) ∧ pN P 30 3 < 11 := H.2.2.2.2.2.1
theorem wfQ.lnk {P : Nat → Nat → Int32} (H : wfQ P) : P 31 0 = nI (pN P 31 0) ∧ pN P 31 0 < 13 := H.2.2.2.2.2.2.1
theorem wfQ.dvs {P : Nat → Nat → Int32} (H : wfQ P) : P 30 0 = nI (pN P 30 0) ∧ pN P 30 0 < 6 := H.2.2.2.2.2.2.2.1
theorem wfQ.into {P : Nat → Nat → Int32} (H : wfQ P) : isM P 10 12 := H.2.2.2.2.2.2.2.2.1
theorem wfQ.sfr {P : Nat → Nat → Int32} (H : wfQ P) : isM P 11 12 := H.2.2.2.2.2.2.2.2.2.1
theorem wfQ.port {P : Nat → Nat → Int32} (H : wfQ P) : ∀ i, i < pN P 30 3 → pN P 0 i = 0 → P 3 i = nI (pN P 3 i) ∧ pN P 3 i < 4 := H.2.2.2.2.2.2.2.2.2.2
def wfP (P : Nat → Nat → Int32) : Prop := wfQ P ∧ isN P 18 10 ∧ ∀ k, k < pN P 30 3 → pN P 18 k < pN P 30 3
theorem wfP.kind {P : Nat → Nat → Int32} (H : wfP P) : isN P 0 4 := H.1.kind
theorem wfP.dev {P : Nat → Nat → Int32} (H : wfP P) : isN P 1 5 := H.1.dev
theorem wfP.frm {P : Nat → Nat → Int32} (H : wfP P) : isN P 12 10 := H.1.frm
theorem wfP.to {P : Nat → Nat → Int32} (H : wfP P) : isN P 13 10 := H.1.to
theorem wfP.whr {P : Nat → Nat → Int32} (H : wfP P) : isN P 14 3 := H.1.whr
theorem wfP.blk {P : Nat → Nat → Int32} (H : wfP P) : P 30 3 = nI (pN P 30 3) ∧ pN P 30 3 < 11 := H.1.blk
theorem wfP.lnk {P : Nat → Nat → Int32} (H : wfP P) : P 31 0 = nI (pN P 31 0) ∧ pN P 31 0 < 13 := H.1.lnk
theorem wfP.dvs {P : Nat → Nat → Int32} (H : wfP P) : P 30 0 = nI (pN P 30 0) ∧ pN P 30 0 < 6 := H.1.dvs
theorem wfP.into {P : Nat → Nat → Int32} (H : wfP P) : isM P 10 12 := H.1.into
theorem wfP.sfr {P : Nat → Nat → Int32} (H : wfP P) : isM P 11 12 := H.1.sfr
theorem wfP.port {P : Nat → Nat → Int32} (H : wfP P) : ∀ i, i < pN P 30 3 → pN P 0 i = 0 → P 3 i = nI (pN P 3 i) ∧ pN P 3 i < 4 := H.1.port
theorem wfP.ord {P : Nat → Nat → Int32} (H : wfP P) : isN P 18 10 := H.2.1
theorem wfP.ordB {P : Nat → Nat → Int32} (H : wfP P) {k : Nat} (hk : k < pN P 30 3) : pN P 18 k < pN P 30 3 := H.2.2 k hk
section
variable {g : GG} {M : MI} {d kc ks : Nat} {Q : QT} {pc : Nat} {ls st : List Value} {h : Hp}
theorem pw_ialdC {a n k0 v : Nat} {f : Nat → Int32} (dc : decode M.2.1 pc = .ok (.iaload, 1)) (hf : h a = some (aI g n f)) (hk : k0 < n) (hn : n < 2 ^ 31) (hv : f k0 = nI v) (k : PW g M d kc ks Q (pc + 1) ls (.int (nI v) :: st) h) : PW g M d kc ks Q pc ls (.int (nI k0) :: .ref a :: st) h := pw_ialdN dc hf hk hn (by rw [hv]; exact k)
theorem pw_if_eqN {a : Nat} {off : Int} {tgt : Nat} (dc : decode M.2.1 pc = .ok (.ifCond .eq off, 3)) (ht : (pc : Int) + off = (tgt : Int)) (ha : a < 2 ^ 31) (k1 : a = 0 → PW g M d kc ks Q tgt ls st h) (k2 : ¬ a = 0 → PW g M d kc ks Q (pc + 3) ls st h) : PW g M d kc ks Q pc ls (.int (nI a) :: st) h := pw_if_eq dc ht (fun q => k1 ((nI_eq ha (by decide)).mp q)) (fun q => k2 (fun z => q ((nI_eq ha (by decide)).mpr z)))
theorem pw_if_neN {a : Nat} {off : Int} {tgt : Nat} (dc : decode M.2.1 pc = .ok (.ifCond .ne off, 3)) (ht : (pc : Int) + off = (tgt : Int)) (ha : a < 2 ^ 31) (k1 : ¬ a = 0 → PW g M d kc ks Q tgt ls st h) (k2 : a = 0 → PW g M d kc ks Q (pc + 3) ls st h) : PW g M d kc ks Q pc ls (.int (nI a) :: st) h := pw_if_ne dc ht (fun q => k1 (fun z => q ((nI_eq ha (by decide)).mpr z))) (fun q => k2 ((nI_eq ha (by decide)).mp q))
end
def fgt : List Value → List Value → Prop
  | [], [] => True
  | a :: l, b :: m => (b = .retAddr 0 ∨ b = a) ∧ fgt l m
  | _, _ => False
theorem fgt_at : ∀ (l m : List Value), fgt l m → (∀ v ∈ l, v.category = 1) → (∀ v ∈ m, v.category = 1) ∧ ∀ (i : Nat) (v : Value), m[i]? = some v → v = .retAddr 0 ∨ l[i]? = some v
  | [], [], _, _ => ⟨fun v h => (by cases h), fun i v h => (by simp at h)⟩
  | a :: l, b :: m, h, hc => by
    obtain ⟨h1, h2⟩ := h
    obtain ⟨q1, q2⟩ := fgt_at l m h2 (fun v hv => hc v (List.mem_cons_of_mem _ hv))
    refine ⟨fun v hv => ?_, fun i v hv => ?_⟩
    · rcases List.mem_cons.mp hv with rfl | hv
      · rcases h1 with rfl | rfl
        · rfl
        · exact hc _ List.mem_cons_self
      · exact q1 v hv
    · match i, hv with
      | 0, hv =>
        simp at hv
        subst hv
        rcases h1 with h1 | h1
        · exact Or.inl h1
        · exact Or.inr (by simp [h1])
      | i + 1, hv =>
        simp at hv ⊢
        exact q2 i v hv
  | [], b :: m, h, _ => by cases h
  | a :: l, [], h, _ => by cases h
theorem pw_fgt {g : GG} {M : MI} {d kc ks : Nat} {Q : QT} {pc : Nat} {ls ls' st : List Value} {h : Hp} (hf : fgt ls ls') (k : PW g M d kc ks Q pc ls' st h) : PW g M d kc ks Q pc ls st h := by
  intro p e R s m args below meth c H locs cells slots mc ms arr C h1 h2 h3 h4 h5 h6 hR hS hL
  obtain ⟨a1, a2, a3, a4⟩ := hL
  obtain ⟨q1, q2⟩ := fgt_at _ _ hf a3
  exact k p e R s m args below meth c H locs cells slots mc ms arr C h1 h2 h3 h4 h5 h6 hR hS ⟨a1, a2, q1, fun i v hv => (q2 i v hv).elim Or.inl (fun z => a4 i v z)⟩
theorem sub1 (x : Int32) : x - 1 = x + (-1) := by
  apply Int32.toBitVec_inj.mp
  simp [BitVec.sub_eq_add_neg]
theorem sub1n (x : Int32) : x - nI 1 = x + (-1) := sub1 x
theorem dm1 {k : Nat} (h : ¬ nI k + (-1) < 0) : 0 < k := by
  rcases Nat.eq_zero_or_pos k with q | q
  · subst q; exact absurd (by decide) h
  · exact q
