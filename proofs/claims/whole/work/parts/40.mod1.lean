/-! the reference: its cycle as functions of the row (written by wip/whole/c_mod1.py) -/
/-- the reference in the heap, but for its rows: P k: what array k holds, P 100: its numbers -/
def ModAt (g : GG) (A : Nat → Nat) (P : Nat → Nat → Int32) (h : Hp) : Prop :=
  h (A 100) = some (.inr (11, [.ref (A 0), .ref (A 1), .ref (A 2), .ref (A 3), .ref (A 4), .ref (A 5), .ref (A 6), .ref (A 7), .ref (A 8), .ref (A 9), .ref (A 10), .ref (A 11), .ref (A 12), .ref (A 13), .ref (A 14), .ref (A 15), .ref (A 16), .ref (A 17), .int (P 100 18), .int (P 100 19), .int (P 100 20), .int (P 100 21), .int (P 100 22), .int (P 100 23), .int (P 100 24), .int (P 100 25), .int (P 100 26), .int (P 100 27), .int (P 100 28), .int (P 100 29), .int (P 100 30), .ref (A 31), .int (P 100 32), .int (P 100 33), .ref (A 34), .ref (A 35), .ref (A 36), .ref (A 37), .ref (A 38), .ref (A 39), .ref (A 40), .ref (A 41), .int (P 100 42), .int (P 100 43), .int (P 100 44), .int (P 100 45), .int (P 100 46), .int (P 100 47), .int (P 100 48), .int (P 100 49), .int (P 100 50), .int (P 100 51), .int (P 100 52), .ref (A 53), .ref (A 54), .ref (A 55), .ref (A 56), .ref (A 57), .ref (A 58), .ref (A 59), .ref (A 60), .ref (A 61), .ref (A 62), .ref (A 63), .ref (A 64), .ref (A 65), .int (P 100 66), .int (P 100 67), .int (P 100 68), .int (P 100 69), .int (P 100 70), .int (P 100 71), .int (P 100 72), .ref (A 73), .ref (A 74), .int (P 100 75)])) ∧
  h (A 1) = some (aI g 10 (P 1)) ∧
  h (A 2) = some (aI g 10 (P 2)) ∧
  h (A 3) = some (aI g 10 (P 3)) ∧
  h (A 4) = some (aI g 10 (P 4)) ∧
  h (A 5) = some (aI g 10 (P 5)) ∧
  h (A 6) = some (aI g 10 (P 6)) ∧
  h (A 7) = some (aI g 10 (P 7)) ∧
  h (A 8) = some (aI g 12 (P 8)) ∧
  h (A 9) = some (aI g 12 (P 9)) ∧
  h (A 10) = some (aI g 12 (P 10)) ∧
  h (A 11) = some (aI g 4 (P 11)) ∧
  h (A 12) = some (aI g 4 (P 12)) ∧
  h (A 13) = some (aI g 4 (P 13)) ∧
  h (A 14) = some (aI g 12 (P 14)) ∧
  h (A 15) = some (aI g 12 (P 15)) ∧
  h (A 16) = some (aI g 12 (P 16)) ∧
  h (A 17) = some (aI g 6 (P 17)) ∧
  h (A 31) = some (aI g 900 (P 31)) ∧
  h (A 34) = some (aI g 10 (P 34)) ∧
  h (A 35) = some (aI g 10 (P 35)) ∧
  h (A 36) = some (aI g 10 (P 36)) ∧
  h (A 37) = some (aI g 12 (P 37)) ∧
  h (A 38) = some (aI g 12 (P 38)) ∧
  h (A 39) = some (aI g 5 (P 39)) ∧
  h (A 40) = some (aZ g 10 (P 40)) ∧
  h (A 41) = some (aZ g 1000 (P 41)) ∧
  h (A 53) = some (aI g 10 (P 53)) ∧
  h (A 54) = some (aI g 10 (P 54)) ∧
  h (A 55) = some (aI g 10 (P 55)) ∧
  h (A 56) = some (aI g 10 (P 56)) ∧
  h (A 57) = some (aI g 10 (P 57)) ∧
  h (A 58) = some (aI g 10 (P 58)) ∧
  h (A 59) = some (aI g 10 (P 59)) ∧
  h (A 60) = some (aI g 12 (P 60)) ∧
  h (A 61) = some (aI g 12 (P 61)) ∧
  h (A 62) = some (aI g 12 (P 62)) ∧
  h (A 63) = some (aI g 4 (P 63)) ∧
  h (A 64) = some (aI g 4 (P 64)) ∧
  h (A 65) = some (aI g 4 (P 65)) ∧
  h (A 73) = some (aI g 10 (P 73)) ∧
  h (A 74) = some (aI g 10 (P 74))
theorem ModAt.o {g : GG} {A : Nat → Nat} {P : Nat → Nat → Int32} {h : Hp} (H : ModAt g A P h) : h (A 100) = some (.inr (11, [.ref (A 0), .ref (A 1), .ref (A 2), .ref (A 3), .ref (A 4), .ref (A 5), .ref (A 6), .ref (A 7), .ref (A 8), .ref (A 9), .ref (A 10), .ref (A 11), .ref (A 12), .ref (A 13), .ref (A 14), .ref (A 15), .ref (A 16), .ref (A 17), .int (P 100 18), .int (P 100 19), .int (P 100 20), .int (P 100 21), .int (P 100 22), .int (P 100 23), .int (P 100 24), .int (P 100 25), .int (P 100 26), .int (P 100 27), .int (P 100 28), .int (P 100 29), .int (P 100 30), .ref (A 31), .int (P 100 32), .int (P 100 33), .ref (A 34), .ref (A 35), .ref (A 36), .ref (A 37), .ref (A 38), .ref (A 39), .ref (A 40), .ref (A 41), .int (P 100 42), .int (P 100 43), .int (P 100 44), .int (P 100 45), .int (P 100 46), .int (P 100 47), .int (P 100 48), .int (P 100 49), .int (P 100 50), .int (P 100 51), .int (P 100 52), .ref (A 53), .ref (A 54), .ref (A 55), .ref (A 56), .ref (A 57), .ref (A 58), .ref (A 59), .ref (A 60), .ref (A 61), .ref (A 62), .ref (A 63), .ref (A 64), .ref (A 65), .int (P 100 66), .int (P 100 67), .int (P 100 68), .int (P 100 69), .int (P 100 70), .int (P 100 71), .int (P 100 72), .ref (A 73), .ref (A 74), .int (P 100 75)])) := H.1
theorem ModAt.a1 {g : GG} {A : Nat → Nat} {P : Nat → Nat → Int32} {h : Hp} (H : ModAt g A P h) : h (A 1) = some (aI g 10 (P 1)) := H.2.1
theorem ModAt.a2 {g : GG} {A : Nat → Nat} {P : Nat → Nat → Int32} {h : Hp} (H : ModAt g A P h) : h (A 2) = some (aI g 10 (P 2)) := H.2.2.1
theorem ModAt.a3 {g : GG} {A : Nat → Nat} {P : Nat → Nat → Int32} {h : Hp} (H : ModAt g A P h) : h (A 3) = some (aI g 10 (P 3)) := H.2.2.2.1
theorem ModAt.a4 {g : GG} {A : Nat → Nat} {P : Nat → Nat → Int32} {h : Hp} (H : ModAt g A P h) : h (A 4) = some (aI g 10 (P 4)) := H.2.2.2.2.1
theorem ModAt.a5 {g : GG} {A : Nat → Nat} {P : Nat → Nat → Int32} {h : Hp} (H : ModAt g A P h) : h (A 5) = some (aI g 10 (P 5)) := H.2.2.2.2.2.1
theorem ModAt.a6 {g : GG} {A : Nat → Nat} {P : Nat → Nat → Int32} {h : Hp} (H : ModAt g A P h) : h (A 6) = some (aI g 10 (P 6)) := H.2.2.2.2.2.2.1
theorem ModAt.a7 {g : GG} {A : Nat → Nat} {P : Nat → Nat → Int32} {h : Hp} (H : ModAt g A P h) : h (A 7) = some (aI g 10 (P 7)) := H.2.2.2.2.2.2.2.1
theorem ModAt.a8 {g : GG} {A : Nat → Nat} {P : Nat → Nat → Int32} {h : Hp} (H : ModAt g A P h) : h (A 8) = some (aI g 12 (P 8)) := H.2.2.2.2.2.2.2.2.1
theorem ModAt.a9 {g : GG} {A : Nat → Nat} {P : Nat → Nat → Int32} {h : Hp} (H : ModAt g A P h) : h (A 9) = some (aI g 12 (P 9)) := H.2.2.2.2.2.2.2.2.2.1
theorem ModAt.a10 {g : GG} {A : Nat → Nat} {P : Nat → Nat → Int32} {h : Hp} (H : ModAt g A P h) : h (A 10) = some (aI g 12 (P 10)) := H.2.2.2.2.2.2.2.2.2.2.1
theorem ModAt.a11 {g : GG} {A : Nat → Nat} {P : Nat → Nat → Int32} {h : Hp} (H : ModAt g A P h) : h (A 11) = some (aI g 4 (P 11)) := H.2.2.2.2.2.2.2.2.2.2.2.1
theorem ModAt.a12 {g : GG} {A : Nat → Nat} {P : Nat → Nat → Int32} {h : Hp} (H : ModAt g A P h) : h (A 12) = some (aI g 4 (P 12)) := H.2.2.2.2.2.2.2.2.2.2.2.2.1
theorem ModAt.a13 {g : GG} {A : Nat → Nat} {P : Nat → Nat → Int32} {h : Hp} (H : ModAt g A P h) : h (A 13) = some (aI g 4 (P 13)) := H.2.2.2.2.2.2.2.2.2.2.2.2.2.1
theorem ModAt.a14 {g : GG} {A : Nat → Nat} {P : Nat → Nat → Int32} {h : Hp} (H : ModAt g A P h) : h (A 14) = some (aI g 12 (P 14)) := H.2.2.2.2.2.2.2.2.2.2.2.2.2.2.1
theorem ModAt.a15 {g : GG} {A : Nat → Nat} {P : Nat → Nat → Int32} {h : Hp} (H : ModAt g A P h) : h (A 15) = some (aI g 12 (P 15)) := H.2.2.2.2.2.2.2.2.2.2.2.2.2.2.2.1
theorem ModAt.a16 {g : GG} {A : Nat → Nat} {P : Nat → Nat → Int32} {h : Hp} (H : ModAt g A P h) : h (A 16) = some (aI g 12 (P 16)) := H.2.2.2.2.2.2.2.2.2.2.2.2.2.2.2.2.1
theorem ModAt.a17 {g : GG} {A : Nat → Nat} {P : Nat → Nat → Int32} {h : Hp} (H : ModAt g A P h) : h (A 17) = some (aI g 6 (P 17)) := H.2.2.2.2.2.2.2.2.2.2.2.2.2.2.2.2.2.1
theorem ModAt.a31 {g : GG} {A : Nat → Nat} {P : Nat → Nat → Int32} {h : Hp} (H : ModAt g A P h) : h (A 31) = some (aI g 900 (P 31)) := H.2.2.2.2.2.2.2.2.2.2.2.2.2.2.2.2.2.2.1
theorem ModAt.a34 {g : GG} {A : Nat → Nat} {P : Nat → Nat → Int32} {h : Hp} (H : ModAt g A P h) : h (A 34) = some (aI g 10 (P 34)) := H.2.2.2.2.2.2.2.2.2.2.2.2.2.2.2.2.2.2.2.1
theorem ModAt.a35 {g : GG} {A : Nat → Nat} {P : Nat → Nat → Int32} {h : Hp} (H : ModAt g A P h) : h (A 35) = some (aI g 10 (P 35)) := H.2.2.2.2.2.2.2.2.2.2.2.2.2.2.2.2.2.2.2.2.1
theorem ModAt.a36 {g : GG} {A : Nat → Nat} {P : Nat → Nat → Int32} {h : Hp} (H : ModAt g A P h) : h (A 36) = some (aI g 10 (P 36)) := H.2.2.2.2.2.2.2.2.2.2.2.2.2.2.2.2.2.2.2.2.2.1
theorem ModAt.a37 {g : GG} {A : Nat → Nat} {P : Nat → Nat → Int32} {h : Hp} (H : ModAt g A P h) : h (A 37) = some (aI g 12 (P 37)) := H.2.2.2.2.2.2.2.2.2.2.2.2.2.2.2.2.2.2.2.2.2.2.1
theorem ModAt.a38 {g : GG} {A : Nat → Nat} {P : Nat → Nat → Int32} {h : Hp} (H : ModAt g A P h) : h (A 38) = some (aI g 12 (P 38)) := H.2.2.2.2.2.2.2.2.2.2.2.2.2.2.2.2.2.2.2.2.2.2.2.1
theorem ModAt.a39 {g : GG} {A : Nat → Nat} {P : Nat → Nat → Int32} {h : Hp} (H : ModAt g A P h) : h (A 39) = some (aI g 5 (P 39)) := H.2.2.2.2.2.2.2.2.2.2.2.2.2.2.2.2.2.2.2.2.2.2.2.2.1
theorem ModAt.a40 {g : GG} {A : Nat → Nat} {P : Nat → Nat → Int32} {h : Hp} (H : ModAt g A P h) : h (A 40) = some (aZ g 10 (P 40)) := H.2.2.2.2.2.2.2.2.2.2.2.2.2.2.2.2.2.2.2.2.2.2.2.2.2.1
theorem ModAt.a41 {g : GG} {A : Nat → Nat} {P : Nat → Nat → Int32} {h : Hp} (H : ModAt g A P h) : h (A 41) = some (aZ g 1000 (P 41)) := H.2.2.2.2.2.2.2.2.2.2.2.2.2.2.2.2.2.2.2.2.2.2.2.2.2.2.1
theorem ModAt.a53 {g : GG} {A : Nat → Nat} {P : Nat → Nat → Int32} {h : Hp} (H : ModAt g A P h) : h (A 53) = some (aI g 10 (P 53)) := H.2.2.2.2.2.2.2.2.2.2.2.2.2.2.2.2.2.2.2.2.2.2.2.2.2.2.2.1
theorem ModAt.a54 {g : GG} {A : Nat → Nat} {P : Nat → Nat → Int32} {h : Hp} (H : ModAt g A P h) : h (A 54) = some (aI g 10 (P 54)) := H.2.2.2.2.2.2.2.2.2.2.2.2.2.2.2.2.2.2.2.2.2.2.2.2.2.2.2.2.1
theorem ModAt.a55 {g : GG} {A : Nat → Nat} {P : Nat → Nat → Int32} {h : Hp} (H : ModAt g A P h) : h (A 55) = some (aI g 10 (P 55)) := H.2.2.2.2.2.2.2.2.2.2.2.2.2.2.2.2.2.2.2.2.2.2.2.2.2.2.2.2.2.1
theorem ModAt.a56 {g : GG} {A : Nat → Nat} {P : Nat → Nat → Int32} {h : Hp} (H : ModAt g A P h) : h (A 56) = some (aI g 10 (P 56)) := H.2.2.2.2.2.2.2.2.2.2.2.2.2.2.2.2.2.2.2.2.2.2.2.2.2.2.2.2.2.2.1
theorem ModAt.a57 {g : GG} {A : Nat → Nat} {P : Nat → Nat → Int32} {h : Hp} (H : ModAt g A P h) : h (A 57) = some (aI g 10 (P 57)) := H.2.2.2.2.2.2.2.2.2.2.2.2.2.2.2.2.2.2.2.2.2.2.2.2.2.2.2.2.2.2.2.1
theorem ModAt.a58 {g : GG} {A : Nat → Nat} {P : Nat → Nat → Int32} {h : Hp} (H : ModAt g A P h) : h (A 58) = some (aI g 10 (P 58)) := H.2.2.2.2.2.2.2.2.2.2.2.2.2.2.2.2.2.2.2.2.2.2.2.2.2.2.2.2.2.2.2.2.1
theorem ModAt.a59 {g : GG} {A : Nat → Nat} {P : Nat → Nat → Int32} {h : Hp} (H : ModAt g A P h) : h (A 59) = some (aI g 10 (P 59)) := H.2.2.2.2.2.2.2.2.2.2.2.2.2.2.2.2.2.2.2.2.2.2.2.2.2.2.2.2.2.2.2.2.2.1
theorem ModAt.a60 {g : GG} {A : Nat → Nat} {P : Nat → Nat → Int32} {h : Hp} (H : ModAt g A P h) : h (A 60) = some (aI g 12 (P 60)) := H.2.2.2.2.2.2.2.2.2.2.2.2.2.2.2.2.2.2.2.2.2.2.2.2.2.2.2.2.2.2.2.2.2.2.1
theorem ModAt.a61 {g : GG} {A : Nat → Nat} {P : Nat → Nat → Int32} {h : Hp} (H : ModAt g A P h) : h (A 61) = some (aI g 12 (P 61)) := H.2.2.2.2.2.2.2.2.2.2.2.2.2.2.2.2.2.2.2.2.2.2.2.2.2.2.2.2.2.2.2.2.2.2.2.1
theorem ModAt.a62 {g : GG} {A : Nat → Nat} {P : Nat → Nat → Int32} {h : Hp} (H : ModAt g A P h) : h (A 62) = some (aI g 12 (P 62)) := H.2.2.2.2.2.2.2.2.2.2.2.2.2.2.2.2.2.2.2.2.2.2.2.2.2.2.2.2.2.2.2.2.2.2.2.2.1
theorem ModAt.a63 {g : GG} {A : Nat → Nat} {P : Nat → Nat → Int32} {h : Hp} (H : ModAt g A P h) : h (A 63) = some (aI g 4 (P 63)) := H.2.2.2.2.2.2.2.2.2.2.2.2.2.2.2.2.2.2.2.2.2.2.2.2.2.2.2.2.2.2.2.2.2.2.2.2.2.1
theorem ModAt.a64 {g : GG} {A : Nat → Nat} {P : Nat → Nat → Int32} {h : Hp} (H : ModAt g A P h) : h (A 64) = some (aI g 4 (P 64)) := H.2.2.2.2.2.2.2.2.2.2.2.2.2.2.2.2.2.2.2.2.2.2.2.2.2.2.2.2.2.2.2.2.2.2.2.2.2.2.1
theorem ModAt.a65 {g : GG} {A : Nat → Nat} {P : Nat → Nat → Int32} {h : Hp} (H : ModAt g A P h) : h (A 65) = some (aI g 4 (P 65)) := H.2.2.2.2.2.2.2.2.2.2.2.2.2.2.2.2.2.2.2.2.2.2.2.2.2.2.2.2.2.2.2.2.2.2.2.2.2.2.2.1
theorem ModAt.a73 {g : GG} {A : Nat → Nat} {P : Nat → Nat → Int32} {h : Hp} (H : ModAt g A P h) : h (A 73) = some (aI g 10 (P 73)) := H.2.2.2.2.2.2.2.2.2.2.2.2.2.2.2.2.2.2.2.2.2.2.2.2.2.2.2.2.2.2.2.2.2.2.2.2.2.2.2.2.1
theorem ModAt.a74 {g : GG} {A : Nat → Nat} {P : Nat → Nat → Int32} {h : Hp} (H : ModAt g A P h) : h (A 74) = some (aI g 10 (P 74)) := H.2.2.2.2.2.2.2.2.2.2.2.2.2.2.2.2.2.2.2.2.2.2.2.2.2.2.2.2.2.2.2.2.2.2.2.2.2.2.2.2.2
def wfM (P : Nat → Nat → Int32) : Prop := isN P 3 4 ∧ isN P 1 5 ∧ isN P 8 10 ∧ isN P 9 10 ∧ isN P 10 3 ∧ isN P 34 10 ∧ isN P 4 301 ∧ (P 100 20 = nI (pN P 100 20) ∧ pN P 100 20 < 11) ∧ (P 100 21 = nI (pN P 100 21) ∧ pN P 100 21 < 13) ∧ (P 100 19 = nI (pN P 100 19) ∧ pN P 100 19 < 6) ∧ (∀ s, s < 4 → P 11 s ≠ -1 → P 13 s ≠ 0)
theorem wfM.kind {P : Nat → Nat → Int32} (H : wfM P) : isN P 3 4 := H.1
theorem wfM.dev {P : Nat → Nat → Int32} (H : wfM P) : isN P 1 5 := H.2.1
theorem wfM.frm {P : Nat → Nat → Int32} (H : wfM P) : isN P 8 10 := H.2.2.1
theorem wfM.to {P : Nat → Nat → Int32} (H : wfM P) : isN P 9 10 := H.2.2.2.1
theorem wfM.whr {P : Nat → Nat → Int32} (H : wfM P) : isN P 10 3 := H.2.2.2.2.1
theorem wfM.tak {P : Nat → Nat → Int32} (H : wfM P) : isN P 34 10 := H.2.2.2.2.2.1
theorem wfM.one {P : Nat → Nat → Int32} (H : wfM P) : isN P 4 301 := H.2.2.2.2.2.2.1
theorem wfM.blk {P : Nat → Nat → Int32} (H : wfM P) : P 100 20 = nI (pN P 100 20) ∧ pN P 100 20 < 11 := H.2.2.2.2.2.2.2.1
theorem wfM.lnk {P : Nat → Nat → Int32} (H : wfM P) : P 100 21 = nI (pN P 100 21) ∧ pN P 100 21 < 13 := H.2.2.2.2.2.2.2.2.1
theorem wfM.dvs {P : Nat → Nat → Int32} (H : wfM P) : P 100 19 = nI (pN P 100 19) ∧ pN P 100 19 < 6 := H.2.2.2.2.2.2.2.2.2.1
theorem wfM.lag {P : Nat → Nat → Int32} (H : wfM P) : ∀ s, s < 4 → P 11 s ≠ -1 → P 13 s ≠ 0 := H.2.2.2.2.2.2.2.2.2.2
def f_Mod_at (b : Nat) (k : Nat) : Int32 :=
  nI (b + (8 * k))
set_option maxRecDepth 4000 in
theorem w_Mod_at_0 {g : GG} {Q : QT} {h : Hp} {kc ks : Nat} (hst : (gl g).stackTraces = false) (b : Nat) (k : Nat)  (hk : Q (.inl (some (.int (f_Mod_at b k)))) h) : PW g M_Mod_at 0 kc ks Q 0 [.int (nI (b)), .int (nI (k))] [] h := by
  refine pw_iload_n e_Mod_at_0 rfl ?_
  refine pw_bipush (v := nI 8) e_Mod_at_1 (by decide) ?_
  refine pw_iload_n e_Mod_at_3 rfl ?_
  refine pw_imulN e_Mod_at_4 ?_
  refine pw_iaddN e_Mod_at_5 ?_
  refine pw_iret e_Mod_at_6 rfl rfl ?_
  rw [f_Mod_at] at hk
  exact hk
theorem q_Mod_at {g : GG} {h : Hp} (hst : (gl g).stackTraces = false) (b : Nat) (k : Nat)  : PM g M_Mod_at 0 0 0 [.int (nI (b)), .int (nI (k))] h (RetV (some (.int (f_Mod_at b k))) h) := by
  refine PM.of hst (by decide) rfl (fun v hv => ?_) (Nat.le_of_ble_eq_true rfl) ?_
  · simp only [List.mem_cons, List.not_mem_nil, or_false] at hv; rcases hv with rfl | rfl <;> rfl
  · have hq := w_Mod_at_0 (g := g) (Q := RetV (some (.int (f_Mod_at b k))) h) (h := h) (kc := 0) (ks := 0) hst b k ?_
    · exact hq
    · exact ⟨rfl, rfl⟩

def f_Mod_linkAt (b : Nat) (l : Nat) : Int32 :=
  nI ((b + 80) + (10 * l))
set_option maxRecDepth 4000 in
theorem w_Mod_linkAt_0 {g : GG} {Q : QT} {h : Hp} {kc ks : Nat} (hst : (gl g).stackTraces = false) (b : Nat) (l : Nat)  (hk : Q (.inl (some (.int (f_Mod_linkAt b l)))) h) : PW g M_Mod_linkAt 0 kc ks Q 0 [.int (nI (b)), .int (nI (l))] [] h := by
  refine pw_iload_n e_Mod_linkAt_0 rfl ?_
  refine pw_bipush (v := nI 80) e_Mod_linkAt_1 (by decide) ?_
  refine pw_iaddN e_Mod_linkAt_3 ?_
  refine pw_bipush (v := nI 10) e_Mod_linkAt_4 (by decide) ?_
  refine pw_iload_n e_Mod_linkAt_6 rfl ?_
  refine pw_imulN e_Mod_linkAt_7 ?_
  refine pw_iaddN e_Mod_linkAt_8 ?_
  refine pw_iret e_Mod_linkAt_9 rfl rfl ?_
  rw [f_Mod_linkAt] at hk
  exact hk
theorem q_Mod_linkAt {g : GG} {h : Hp} (hst : (gl g).stackTraces = false) (b : Nat) (l : Nat)  : PM g M_Mod_linkAt 0 0 0 [.int (nI (b)), .int (nI (l))] h (RetV (some (.int (f_Mod_linkAt b l))) h) := by
  refine PM.of hst (by decide) rfl (fun v hv => ?_) (Nat.le_of_ble_eq_true rfl) ?_
  · simp only [List.mem_cons, List.not_mem_nil, or_false] at hv; rcases hv with rfl | rfl <;> rfl
  · have hq := w_Mod_linkAt_0 (g := g) (Q := RetV (some (.int (f_Mod_linkAt b l))) h) (h := h) (kc := 0) (ks := 0) hst b l ?_
    · exact hq
    · exact ⟨rfl, rfl⟩

def f_Mod_put (x : Int32) : Int32 :=
  if 0 ≤ x then if x ≤ 1000 then x else 1000 else 0
set_option maxRecDepth 4000 in
theorem w_Mod_put_0 {g : GG} {Q : QT} {h : Hp} {kc ks : Nat} (hst : (gl g).stackTraces = false) (x : Int32)  (hk : Q (.inl (some (.int (f_Mod_put x)))) h) : PW g M_Mod_put 0 kc ks Q 0 [.int (x)] [] h := by
  refine pw_iload_n e_Mod_put_0 rfl ?_
  refine pw_if_ge (tgt := 8) e_Mod_put_1 (by decide) (fun (H1 : 0 ≤ x) => ?_) (fun (H1 : ¬ 0 ≤ x) => ?_)
  · refine pw_iload_n e_Mod_put_8 rfl ?_
    refine pw_sipush (v := nI 1000) e_Mod_put_9 (by decide) ?_
    refine pw_icmp_le (tgt := 21) e_Mod_put_12 (by decide) (fun (H2 : x ≤ 1000) => ?_) (fun (H2 : ¬ x ≤ 1000) => ?_)
    · refine pw_iload_n e_Mod_put_21 rfl ?_
      refine pw_iret e_Mod_put_22 rfl rfl ?_
      rw [f_Mod_put, if_pos H1, if_pos H2] at hk
      exact hk
    · refine pw_sipush (v := nI 1000) e_Mod_put_15 (by decide) ?_
      refine pw_goto (tgt := 22) e_Mod_put_18 (by decide) ?_
      refine pw_iret e_Mod_put_22 rfl rfl ?_
      rw [f_Mod_put, if_pos H1, if_neg H2] at hk
      exact hk
  · refine pw_iconst (v := nI 0) e_Mod_put_4 (by decide) ?_
    refine pw_goto (tgt := 22) e_Mod_put_5 (by decide) ?_
    refine pw_iret e_Mod_put_22 rfl rfl ?_
    rw [f_Mod_put, if_neg H1] at hk
    exact hk
theorem q_Mod_put {g : GG} {h : Hp} (hst : (gl g).stackTraces = false) (x : Int32)  : PM g M_Mod_put 0 0 0 [.int (x)] h (RetV (some (.int (f_Mod_put x))) h) := by
  refine PM.of hst (by decide) rfl (fun v hv => ?_) (Nat.le_of_ble_eq_true rfl) ?_
  · simp only [List.mem_cons, List.not_mem_nil, or_false] at hv; rcases hv with rfl <;> rfl
  · have hq := w_Mod_put_0 (g := g) (Q := RetV (some (.int (f_Mod_put x))) h) (h := h) (kc := 0) (ks := 0) hst x ?_
    · exact hq
    · exact ⟨rfl, rfl⟩

def f_Mod_greater (x : Int32) (y : Int32) : Int32 :=
  if x ≤ y then y else x
set_option maxRecDepth 4000 in
theorem w_Mod_greater_0 {g : GG} {Q : QT} {h : Hp} {kc ks : Nat} (hst : (gl g).stackTraces = false) (x : Int32) (y : Int32)  (hk : Q (.inl (some (.int (f_Mod_greater x y)))) h) : PW g M_Mod_greater 0 kc ks Q 0 [.int (x), .int (y)] [] h := by
  refine pw_iload_n e_Mod_greater_0 rfl ?_
  refine pw_iload_n e_Mod_greater_1 rfl ?_
  refine pw_icmp_le (tgt := 9) e_Mod_greater_2 (by decide) (fun (H1 : x ≤ y) => ?_) (fun (H1 : ¬ x ≤ y) => ?_)
  · refine pw_iload_n e_Mod_greater_9 rfl ?_
    refine pw_iret e_Mod_greater_10 rfl rfl ?_
    rw [f_Mod_greater, if_pos H1] at hk
    exact hk
  · refine pw_iload_n e_Mod_greater_5 rfl ?_
    refine pw_goto (tgt := 10) e_Mod_greater_6 (by decide) ?_
    refine pw_iret e_Mod_greater_10 rfl rfl ?_
    rw [f_Mod_greater, if_neg H1] at hk
    exact hk
theorem q_Mod_greater {g : GG} {h : Hp} (hst : (gl g).stackTraces = false) (x : Int32) (y : Int32)  : PM g M_Mod_greater 0 0 0 [.int (x), .int (y)] h (RetV (some (.int (f_Mod_greater x y))) h) := by
  refine PM.of hst (by decide) rfl (fun v hv => ?_) (Nat.le_of_ble_eq_true rfl) ?_
  · simp only [List.mem_cons, List.not_mem_nil, or_false] at hv; rcases hv with rfl | rfl <;> rfl
  · have hq := w_Mod_greater_0 (g := g) (Q := RetV (some (.int (f_Mod_greater x y))) h) (h := h) (kc := 0) (ks := 0) hst x y ?_
    · exact hq
    · exact ⟨rfl, rfl⟩

def f_Mod_span (x : Int32) : Int32 :=
  if 0 ≤ x then x else -x
set_option maxRecDepth 4000 in
theorem w_Mod_span_0 {g : GG} {Q : QT} {h : Hp} {kc ks : Nat} (hst : (gl g).stackTraces = false) (x : Int32)  (hk : Q (.inl (some (.int (f_Mod_span x)))) h) : PW g M_Mod_span 0 kc ks Q 0 [.int (x)] [] h := by
  refine pw_iload_n e_Mod_span_0 rfl ?_
  refine pw_if_ge (tgt := 9) e_Mod_span_1 (by decide) (fun (H1 : 0 ≤ x) => ?_) (fun (H1 : ¬ 0 ≤ x) => ?_)
  · refine pw_iload_n e_Mod_span_9 rfl ?_
    refine pw_iret e_Mod_span_10 rfl rfl ?_
    rw [f_Mod_span, if_pos H1] at hk
    exact hk
  · refine pw_iload_n e_Mod_span_4 rfl ?_
    refine pw_ineg e_Mod_span_5 ?_
    refine pw_goto (tgt := 10) e_Mod_span_6 (by decide) ?_
    refine pw_iret e_Mod_span_10 rfl rfl ?_
    rw [f_Mod_span, if_neg H1] at hk
    exact hk
theorem q_Mod_span {g : GG} {h : Hp} (hst : (gl g).stackTraces = false) (x : Int32)  : PM g M_Mod_span 0 0 0 [.int (x)] h (RetV (some (.int (f_Mod_span x))) h) := by
  refine PM.of hst (by decide) rfl (fun v hv => ?_) (Nat.le_of_ble_eq_true rfl) ?_
  · simp only [List.mem_cons, List.not_mem_nil, or_false] at hv; rcases hv with rfl <;> rfl
  · have hq := w_Mod_span_0 (g := g) (Q := RetV (some (.int (f_Mod_span x))) h) (h := h) (kc := 0) (ks := 0) hst x ?_
    · exact hq
    · exact ⟨rfl, rfl⟩

def f_Mod_within (x : Int32) (y : Int32) (z : Int32) : Int32 :=
  if x < y then 0 else if z < x then 0 else 1
set_option maxRecDepth 4000 in
theorem w_Mod_within_0 {g : GG} {Q : QT} {h : Hp} {kc ks : Nat} (hst : (gl g).stackTraces = false) (x : Int32) (y : Int32) (z : Int32)  (hk : Q (.inl (some (.int (f_Mod_within x y z)))) h) : PW g M_Mod_within 0 kc ks Q 0 [.int (x), .int (y), .int (z)] [] h := by
  refine pw_iload_n e_Mod_within_0 rfl ?_
  refine pw_iload_n e_Mod_within_1 rfl ?_
  refine pw_icmp_lt (tgt := 14) e_Mod_within_2 (by decide) (fun (H1 : x < y) => ?_) (fun (H1 : ¬ x < y) => ?_)
  · refine pw_iconst (v := nI 0) e_Mod_within_14 (by decide) ?_
    refine pw_iret e_Mod_within_15 rfl (by decide) ?_
    rw [f_Mod_within, if_pos H1] at hk
    exact hk
  · refine pw_iload_n e_Mod_within_5 rfl ?_
    refine pw_iload_n e_Mod_within_6 rfl ?_
    refine pw_icmp_gt (tgt := 14) e_Mod_within_7 (by decide) (fun (H2 : z < x) => ?_) (fun (H2 : ¬ z < x) => ?_)
    · refine pw_iconst (v := nI 0) e_Mod_within_14 (by decide) ?_
      refine pw_iret e_Mod_within_15 rfl (by decide) ?_
      rw [f_Mod_within, if_neg H1, if_pos H2] at hk
      exact hk
    · refine pw_iconst (v := nI 1) e_Mod_within_10 (by decide) ?_
      refine pw_goto (tgt := 15) e_Mod_within_11 (by decide) ?_
      refine pw_iret e_Mod_within_15 rfl (by decide) ?_
      rw [f_Mod_within, if_neg H1, if_neg H2] at hk
      exact hk
theorem q_Mod_within {g : GG} {h : Hp} (hst : (gl g).stackTraces = false) (x : Int32) (y : Int32) (z : Int32)  : PM g M_Mod_within 0 0 0 [.int (x), .int (y), .int (z)] h (RetV (some (.int (f_Mod_within x y z))) h) := by
  refine PM.of hst (by decide) rfl (fun v hv => ?_) (Nat.le_of_ble_eq_true rfl) ?_
  · simp only [List.mem_cons, List.not_mem_nil, or_false] at hv; rcases hv with rfl | rfl | rfl <;> rfl
  · have hq := w_Mod_within_0 (g := g) (Q := RetV (some (.int (f_Mod_within x y z))) h) (h := h) (kc := 0) (ks := 0) hst x y z ?_
    · exact hq
    · exact ⟨rfl, rfl⟩

theorem q_at {g : GG} {h : Hp} (hst : (gl g).stackTraces = false) (b k : Nat) : PM g M_Mod_at 0 0 0 [.int (nI b), .int (nI k)] h (RetV (some (.int (nI (b + 8 * k)))) h) := q_Mod_at hst b k
theorem q_linkAt {g : GG} {h : Hp} (hst : (gl g).stackTraces = false) (b l : Nat) : PM g M_Mod_linkAt 0 0 0 [.int (nI b), .int (nI l)] h (RetV (some (.int (nI (b + 80 + 10 * l)))) h) := q_Mod_linkAt hst b l
def f_Mod_linkTo_2 (P : Nat → Nat → Int32) (k : Nat) (w : Nat) : Nat → (Nat) → Int32
  | 0, _ => 0
  | t + 1, l => if (pN P 100 21) ≤ l then (-1) else if (pN P 9 l) = k then if (pN P 10 l) = w then nI (l) else f_Mod_linkTo_2 P k w t (l + 1) else f_Mod_linkTo_2 P k w t (l + 1)
set_option maxRecDepth 4000 in
theorem w_Mod_linkTo_2 {g : GG} {Q : QT} {h : Hp} {kc ks : Nat} (hst : (gl g).stackTraces = false) {A : Nat → Nat} {P : Nat → Nat → Int32} (hP : ModAt g A P h) (hw : wfM P) (k : Nat) (w : Nat) (hkk : k < 10) (hw3 : w < 3)  (t : Nat) : ∀ (l : Nat) (hl9 : l < 13) (hlt : 12 - l < t) (hk : Q (.inl (some (.int (f_Mod_linkTo_2 P k w t l)))) h), PW g M_Mod_linkTo 0 kc ks Q 2 [.ref (A 100), .int (nI (k)), .int (nI (w)), .int (nI (l))] [] h := by
  induction t with
  | zero => intro l hl9 hlt _; exact absurd hlt (Nat.not_lt_zero _)
  | succ t ih =>
    intro l hl9 hlt hk
    have hz0 := hw.blk.2
    have hz1 := hw.lnk.2
    have hz2 := hw.dvs.2
    refine pw_iload_n e_Mod_linkTo_2 rfl ?_
    refine pw_aload_n e_Mod_linkTo_3 rfl ?_
    refine pw_getf e_Mod_linkTo_4 fl_Mod_162 hP.o rfl ?_
    rw [hw.lnk.1]
    refine pw_icmp_geN (tgt := 38) e_Mod_linkTo_7 (by decide) (by omega) (by omega) (fun (H1 : (pN P 100 21) ≤ l) => ?_) (fun (H1 : l < (pN P 100 21)) => ?_)
    · refine pw_iconst (v := (-1)) e_Mod_linkTo_38 (by decide) ?_
      refine pw_iret e_Mod_linkTo_39 rfl rfl ?_
      rw [f_Mod_linkTo_2, if_pos H1] at hk
      exact hk
    · refine pw_aload_n e_Mod_linkTo_10 rfl ?_
      refine pw_getf e_Mod_linkTo_11 fl_Mod_37 hP.o rfl ?_
      refine pw_iload_n e_Mod_linkTo_14 rfl ?_
      have hb2 := hw.to l
      refine pw_ialdC e_Mod_linkTo_15 hP.a9 (by omega) (by decide) hb2.1 ?_
      replace hb2 := hb2.2
      refine pw_iload_n e_Mod_linkTo_16 rfl ?_
      refine pw_icmp_neN (tgt := 32) e_Mod_linkTo_17 (by decide) (by omega) (by omega) (fun (H3 : ¬ (pN P 9 l) = k) => ?_) (fun (H3 : (pN P 9 l) = k) => ?_)
      · refine pw_iincN (ls2 := [_, _, _, _]) e_Mod_linkTo_32 rfl (by decide) rfl ?_
        refine pw_goto (tgt := 2) e_Mod_linkTo_35 (by decide) ?_
        refine ih (l + 1) (by omega) (by omega) ?_
        rw [f_Mod_linkTo_2, if_neg (Nat.not_le.mpr H1), if_neg H3] at hk
        exact hk
      · refine pw_aload_n e_Mod_linkTo_20 rfl ?_
        refine pw_getf e_Mod_linkTo_21 fl_Mod_40 hP.o rfl ?_
        refine pw_iload_n e_Mod_linkTo_24 rfl ?_
        have hb4 := hw.whr l
        refine pw_ialdC e_Mod_linkTo_25 hP.a10 (by omega) (by decide) hb4.1 ?_
        replace hb4 := hb4.2
        refine pw_iload_n e_Mod_linkTo_26 rfl ?_
        refine pw_icmp_neN (tgt := 32) e_Mod_linkTo_27 (by decide) (by omega) (by omega) (fun (H5 : ¬ (pN P 10 l) = w) => ?_) (fun (H5 : (pN P 10 l) = w) => ?_)
        · refine pw_iincN (ls2 := [_, _, _, _]) e_Mod_linkTo_32 rfl (by decide) rfl ?_
          refine pw_goto (tgt := 2) e_Mod_linkTo_35 (by decide) ?_
          refine ih (l + 1) (by omega) (by omega) ?_
          rw [f_Mod_linkTo_2, if_neg (Nat.not_le.mpr H1), if_pos H3, if_neg H5] at hk
          exact hk
        · refine pw_iload_n e_Mod_linkTo_30 rfl ?_
          refine pw_iret e_Mod_linkTo_31 rfl rfl ?_
          rw [f_Mod_linkTo_2, if_neg (Nat.not_le.mpr H1), if_pos H3, if_pos H5] at hk
          exact hk
def f_Mod_linkTo (P : Nat → Nat → Int32) (k : Nat) (w : Nat) : Int32 :=
  f_Mod_linkTo_2 P k w 13 0
set_option maxRecDepth 4000 in
theorem w_Mod_linkTo_0 {g : GG} {Q : QT} {h : Hp} {kc ks : Nat} (hst : (gl g).stackTraces = false) {A : Nat → Nat} {P : Nat → Nat → Int32} (hP : ModAt g A P h) (hw : wfM P) (k : Nat) (w : Nat) (hkk : k < 10) (hw3 : w < 3)  (hk : Q (.inl (some (.int (f_Mod_linkTo P k w)))) h) : PW g M_Mod_linkTo 0 kc ks Q 0 [.ref (A 100), .int (nI (k)), .int (nI (w)), .retAddr 0] [] h := by
  have hz0 := hw.blk.2
  have hz1 := hw.lnk.2
  have hz2 := hw.dvs.2
  refine pw_iconst (v := nI 0) e_Mod_linkTo_0 (by decide) ?_
  refine pw_istore_n (ls2 := [_, _, _, _]) e_Mod_linkTo_1 (by decide) rfl ?_
  refine w_Mod_linkTo_2 hst hP hw k w hkk hw3 13 0 (by omega) (by omega) ?_
  rw [f_Mod_linkTo] at hk
  exact hk
theorem q_Mod_linkTo {g : GG} {h : Hp} (hst : (gl g).stackTraces = false) {A : Nat → Nat} {P : Nat → Nat → Int32} (hP : ModAt g A P h) (hw : wfM P) (k : Nat) (w : Nat) (hkk : k < 10) (hw3 : w < 3)  : PM g M_Mod_linkTo 0 0 0 [.ref (A 100), .int (nI (k)), .int (nI (w))] h (RetV (some (.int (f_Mod_linkTo P k w))) h) := by
  refine PM.of hst (by decide) rfl (fun v hv => ?_) (Nat.le_of_ble_eq_true rfl) ?_
  · simp only [List.mem_cons, List.not_mem_nil, or_false] at hv; rcases hv with rfl | rfl | rfl <;> rfl
  · have hq := w_Mod_linkTo_0 (g := g) (Q := RetV (some (.int (f_Mod_linkTo P k w))) h) (h := h) (kc := 0) (ks := 0) hst hP hw k w hkk hw3 ?_
    · exact hq
    · exact ⟨rfl, rfl⟩

def f_Mod_setFrom_2 (P : Nat → Nat → Int32) (k : Nat) : Nat → (Nat) → Int32
  | 0, _ => 0
  | t + 1, l => if (pN P 100 21) ≤ l then (-1) else if (pN P 8 l) = k then if (pN P 10 l) = 2 then nI (l) else f_Mod_setFrom_2 P k t (l + 1) else f_Mod_setFrom_2 P k t (l + 1)
set_option maxRecDepth 4000 in
theorem w_Mod_setFrom_2 {g : GG} {Q : QT} {h : Hp} {kc ks : Nat} (hst : (gl g).stackTraces = false) {A : Nat → Nat} {P : Nat → Nat → Int32} (hP : ModAt g A P h) (hw : wfM P) (k : Nat) (hkk : k < 10)  (t : Nat) : ∀ (l : Nat) (hl9 : l < 13) (hlt : 12 - l < t) (hk : Q (.inl (some (.int (f_Mod_setFrom_2 P k t l)))) h), PW g M_Mod_setFrom 0 kc ks Q 2 [.ref (A 100), .int (nI (k)), .int (nI (l))] [] h := by
  induction t with
  | zero => intro l hl9 hlt _; exact absurd hlt (Nat.not_lt_zero _)
  | succ t ih =>
    intro l hl9 hlt hk
    have hz0 := hw.blk.2
    have hz1 := hw.lnk.2
    have hz2 := hw.dvs.2
    refine pw_iload_n e_Mod_setFrom_2 rfl ?_
    refine pw_aload_n e_Mod_setFrom_3 rfl ?_
    refine pw_getf e_Mod_setFrom_4 fl_Mod_162 hP.o rfl ?_
    rw [hw.lnk.1]
    refine pw_icmp_geN (tgt := 38) e_Mod_setFrom_7 (by decide) (by omega) (by omega) (fun (H1 : (pN P 100 21) ≤ l) => ?_) (fun (H1 : l < (pN P 100 21)) => ?_)
    · refine pw_iconst (v := (-1)) e_Mod_setFrom_38 (by decide) ?_
      refine pw_iret e_Mod_setFrom_39 rfl rfl ?_
      rw [f_Mod_setFrom_2, if_pos H1] at hk
      exact hk
    · refine pw_aload_n e_Mod_setFrom_10 rfl ?_
      refine pw_getf e_Mod_setFrom_11 fl_Mod_34 hP.o rfl ?_
      refine pw_iload_n e_Mod_setFrom_14 rfl ?_
      have hb2 := hw.frm l
      refine pw_ialdC e_Mod_setFrom_15 hP.a8 (by omega) (by decide) hb2.1 ?_
      replace hb2 := hb2.2
      refine pw_iload_n e_Mod_setFrom_16 rfl ?_
      refine pw_icmp_neN (tgt := 32) e_Mod_setFrom_17 (by decide) (by omega) (by omega) (fun (H3 : ¬ (pN P 8 l) = k) => ?_) (fun (H3 : (pN P 8 l) = k) => ?_)
      · refine pw_iincN (ls2 := [_, _, _]) e_Mod_setFrom_32 rfl (by decide) rfl ?_
        refine pw_goto (tgt := 2) e_Mod_setFrom_35 (by decide) ?_
        refine ih (l + 1) (by omega) (by omega) ?_
        rw [f_Mod_setFrom_2, if_neg (Nat.not_le.mpr H1), if_neg H3] at hk
        exact hk
      · refine pw_aload_n e_Mod_setFrom_20 rfl ?_
        refine pw_getf e_Mod_setFrom_21 fl_Mod_40 hP.o rfl ?_
        refine pw_iload_n e_Mod_setFrom_24 rfl ?_
        have hb4 := hw.whr l
        refine pw_ialdC e_Mod_setFrom_25 hP.a10 (by omega) (by decide) hb4.1 ?_
        replace hb4 := hb4.2
        refine pw_iconst (v := nI 2) e_Mod_setFrom_26 (by decide) ?_
        refine pw_icmp_neN (tgt := 32) e_Mod_setFrom_27 (by decide) (by omega) (by omega) (fun (H5 : ¬ (pN P 10 l) = 2) => ?_) (fun (H5 : (pN P 10 l) = 2) => ?_)
        · refine pw_iincN (ls2 := [_, _, _]) e_Mod_setFrom_32 rfl (by decide) rfl ?_
          refine pw_goto (tgt := 2) e_Mod_setFrom_35 (by decide) ?_
          refine ih (l + 1) (by omega) (by omega) ?_
          rw [f_Mod_setFrom_2, if_neg (Nat.not_le.mpr H1), if_pos H3, if_neg H5] at hk
          exact hk
        · refine pw_iload_n e_Mod_setFrom_30 rfl ?_
          refine pw_iret e_Mod_setFrom_31 rfl rfl ?_
          rw [f_Mod_setFrom_2, if_neg (Nat.not_le.mpr H1), if_pos H3, if_pos H5] at hk
          exact hk
def f_Mod_setFrom (P : Nat → Nat → Int32) (k : Nat) : Int32 :=
  f_Mod_setFrom_2 P k 13 0
set_option maxRecDepth 4000 in
theorem w_Mod_setFrom_0 {g : GG} {Q : QT} {h : Hp} {kc ks : Nat} (hst : (gl g).stackTraces = false) {A : Nat → Nat} {P : Nat → Nat → Int32} (hP : ModAt g A P h) (hw : wfM P) (k : Nat) (hkk : k < 10)  (hk : Q (.inl (some (.int (f_Mod_setFrom P k)))) h) : PW g M_Mod_setFrom 0 kc ks Q 0 [.ref (A 100), .int (nI (k)), .retAddr 0] [] h := by
  have hz0 := hw.blk.2
  have hz1 := hw.lnk.2
  have hz2 := hw.dvs.2
  refine pw_iconst (v := nI 0) e_Mod_setFrom_0 (by decide) ?_
  refine pw_istore_n (ls2 := [_, _, _]) e_Mod_setFrom_1 (by decide) rfl ?_
  refine w_Mod_setFrom_2 hst hP hw k hkk 13 0 (by omega) (by omega) ?_
  rw [f_Mod_setFrom] at hk
  exact hk
theorem q_Mod_setFrom {g : GG} {h : Hp} (hst : (gl g).stackTraces = false) {A : Nat → Nat} {P : Nat → Nat → Int32} (hP : ModAt g A P h) (hw : wfM P) (k : Nat) (hkk : k < 10)  : PM g M_Mod_setFrom 0 0 0 [.ref (A 100), .int (nI (k))] h (RetV (some (.int (f_Mod_setFrom P k))) h) := by
  refine PM.of hst (by decide) rfl (fun v hv => ?_) (Nat.le_of_ble_eq_true rfl) ?_
  · simp only [List.mem_cons, List.not_mem_nil, or_false] at hv; rcases hv with rfl | rfl <;> rfl
  · have hq := w_Mod_setFrom_0 (g := g) (Q := RetV (some (.int (f_Mod_setFrom P k))) h) (h := h) (kc := 0) (ks := 0) hst hP hw k hkk ?_
    · exact hq
    · exact ⟨rfl, rfl⟩

def f_Mod_linkAtI (b : Nat) (y : Int32) : Int32 :=
  (nI (b + 80)) + (10 * y)
set_option maxRecDepth 4000 in
theorem w_Mod_linkAtI_0 {g : GG} {Q : QT} {h : Hp} {kc ks : Nat} (hst : (gl g).stackTraces = false) (b : Nat) (y : Int32)  (hk : Q (.inl (some (.int (f_Mod_linkAtI b y)))) h) : PW g M_Mod_linkAt 0 kc ks Q 0 [.int (nI (b)), .int (y)] [] h := by
  refine pw_iload_n e_Mod_linkAt_0 rfl ?_
  refine pw_bipush (v := nI 80) e_Mod_linkAt_1 (by decide) ?_
  refine pw_iaddN e_Mod_linkAt_3 ?_
  refine pw_bipush (v := nI 10) e_Mod_linkAt_4 (by decide) ?_
  refine pw_iload_n e_Mod_linkAt_6 rfl ?_
  refine pw_imul e_Mod_linkAt_7 ?_
  refine pw_iadd e_Mod_linkAt_8 ?_
  refine pw_iret e_Mod_linkAt_9 rfl rfl ?_
  rw [f_Mod_linkAtI] at hk
  exact hk
theorem q_Mod_linkAtI {g : GG} {h : Hp} (hst : (gl g).stackTraces = false) (b : Nat) (y : Int32)  : PM g M_Mod_linkAt 0 0 0 [.int (nI (b)), .int (y)] h (RetV (some (.int (f_Mod_linkAtI b y))) h) := by
  refine PM.of hst (by decide) rfl (fun v hv => ?_) (Nat.le_of_ble_eq_true rfl) ?_
  · simp only [List.mem_cons, List.not_mem_nil, or_false] at hv; rcases hv with rfl | rfl <;> rfl
  · have hq := w_Mod_linkAtI_0 (g := g) (Q := RetV (some (.int (f_Mod_linkAtI b y))) h) (h := h) (kc := 0) (ks := 0) hst b y ?_
    · exact hq
    · exact ⟨rfl, rfl⟩

/-- one more than the link's number: 0 where there is none -/
def lkP (P : Nat → Nat → Int32) (k w : Nat) : Nat := (f_Mod_linkTo P k w + 1).toNatClampNeg
def sfP (P : Nat → Nat → Int32) (k : Nat) : Nat := (f_Mod_setFrom P k + 1).toNatClampNeg
theorem nI_one (j : Nat) : nI (j + 1) + -1 = nI j := by
  rw [nI_succ, Int32.add_assoc]
  exact Int32.add_zero _
theorem lk_cases {P : Nat → Nat → Int32} (hw : wfM P) (k w : Nat) : f_Mod_linkTo P k w = -1 ∨ ∃ j, j < pN P 100 21 ∧ f_Mod_linkTo P k w = nI j := by
  have hz := hw.lnk.2
  have key : ∀ t l, 12 - l < t → f_Mod_linkTo_2 P k w t l = -1 ∨ ∃ j, j < pN P 100 21 ∧ f_Mod_linkTo_2 P k w t l = nI j := by
    intro t
    induction t with
    | zero => intro l hl; omega
    | succ t ih =>
      intro l hl
      rw [f_Mod_linkTo_2]
      split
      · exact Or.inl rfl
      · split
        · split
          · exact Or.inr ⟨l, by omega, rfl⟩
          · exact ih _ (by omega)
        · exact ih _ (by omega)
  exact key _ _ (by omega)
theorem sf_cases {P : Nat → Nat → Int32} (hw : wfM P) (k : Nat) : f_Mod_setFrom P k = -1 ∨ ∃ j, j < pN P 100 21 ∧ f_Mod_setFrom P k = nI j := by
  have hz := hw.lnk.2
  have key : ∀ t l, 12 - l < t → f_Mod_setFrom_2 P k t l = -1 ∨ ∃ j, j < pN P 100 21 ∧ f_Mod_setFrom_2 P k t l = nI j := by
    intro t
    induction t with
    | zero => intro l hl; omega
    | succ t ih =>
      intro l hl
      rw [f_Mod_setFrom_2]
      split
      · exact Or.inl rfl
      · split
        · split
          · exact Or.inr ⟨l, by omega, rfl⟩
          · exact ih _ (by omega)
        · exact ih _ (by omega)
  exact key _ _ (by omega)
theorem lkp_of {n : Nat} {x : Int32} (hn : n < 13) (h : x = -1 ∨ ∃ j, j < n ∧ x = nI j) : x = nI (x + 1).toNatClampNeg + -1 ∧ (x + 1).toNatClampNeg ≤ n := by
  rcases h with rfl | ⟨j, hj, rfl⟩
  · exact ⟨by decide, Nat.zero_le _⟩
  · rw [← nI_succ, nI_clamp (by omega), nI_one]
    exact ⟨rfl, by omega⟩
theorem lk_of {P : Nat → Nat → Int32} (hw : wfM P) (k w : Nat) : f_Mod_linkTo P k w = nI (lkP P k w) + -1 ∧ lkP P k w ≤ pN P 100 21 := lkp_of hw.lnk.2 (lk_cases hw k w)
theorem sf_of {P : Nat → Nat → Int32} (hw : wfM P) (k : Nat) : f_Mod_setFrom P k = nI (sfP P k) + -1 ∧ sfP P k ≤ pN P 100 21 := lkp_of hw.lnk.2 (sf_cases hw k)
theorem q_linkAtP {g : GG} {h : Hp} (hst : (gl g).stackTraces = false) (b j : Nat) : PM g M_Mod_linkAt 0 0 0 [.int (nI b), .int (nI j + -1)] h (RetV (some (.int (nI (b + 70 + 10 * j)))) h) := by
  have q := q_Mod_linkAtI (g := g) (h := h) hst b (nI j + -1)
  have e : f_Mod_linkAtI b (nI j + -1) = nI (b + 70 + 10 * j) := by
    show nI (b + 80) + 10 * (nI j + -1) = _
    rw [Int32.mul_add, show (10 : Int32) * -1 = -10 by decide, show (10 : Int32) = nI 10 by decide, pk_mul, ← Int32.add_assoc, nI_add]
    rw [show b + 80 + 10 * j = (b + 70 + 10 * j) + 10 by omega, ← nI_add, Int32.add_assoc]
    exact Int32.add_zero _
  rw [← e]; exact q
theorem q_lkA {g : GG} {h : Hp} (hst : (gl g).stackTraces = false) {P : Nat → Nat → Int32} (hw : wfM P) (b k w : Nat) : PM g M_Mod_linkAt 0 0 0 [.int (nI b), .int (f_Mod_linkTo P k w)] h (RetV (some (.int (nI (b + 70 + 10 * lkP P k w)))) h) := by
  rw [(lk_of hw k w).1]; exact q_linkAtP hst b _
theorem q_sfA {g : GG} {h : Hp} (hst : (gl g).stackTraces = false) {P : Nat → Nat → Int32} (hw : wfM P) (b k : Nat) : PM g M_Mod_linkAt 0 0 0 [.int (nI b), .int (f_Mod_setFrom P k)] h (RetV (some (.int (nI (b + 70 + 10 * sfP P k)))) h) := by
  rw [(sf_of hw k).1]; exact q_linkAtP hst b _
def f_Mod_isOn (P : Nat → Nat → Int32) (b : Nat) (d : Nat) (c : Nat → Int32) : Int32 :=
  if (((c (b + 205)) >>> ((nI (d)) &&& 31)) &&& 1) = 1 then 1 else 0
set_option maxRecDepth 4000 in
theorem w_Mod_isOn_0 {g : GG} {Q : QT} {h : Hp} {kc ks : Nat} (hst : (gl g).stackTraces = false) {A : Nat → Nat} {P : Nat → Nat → Int32} (hP : ∀ e, ModAt g A P (va_up h (A 0) e)) (hw : wfM P) (b : Nat) (d : Nat) (hb : b + 600 ≤ 18060)  (c : Nat → Int32) (hk : Q (.inl (some (.int (f_Mod_isOn P b d c)))) (va_up h (A 0) (some (aI g 18060 (c))))) : PW g M_Mod_isOn 1 kc ks Q 0 [.ref (A 100), .int (nI (b)), .int (nI (d))] [] (va_up h (A 0) (some (aI g 18060 (c)))) := by
  have hz0 := hw.blk.2
  have hz1 := hw.lnk.2
  have hz2 := hw.dvs.2
  refine pw_aload_n e_Mod_isOn_0 rfl ?_
  refine pw_getf e_Mod_isOn_1 fl_Mod_9 (hP _).o rfl ?_
  refine pw_iload_n e_Mod_isOn_4 rfl ?_
  refine pw_sipush (v := nI 205) e_Mod_isOn_5 (by decide) ?_
  refine pw_iaddN e_Mod_isOn_8 ?_
  refine pw_ialdN e_Mod_isOn_9 up_same (by omega) (by decide) ?_
  refine pw_iload_n e_Mod_isOn_10 rfl ?_
  refine pw_ishr e_Mod_isOn_11 ?_
  refine pw_iconst (v := nI 1) e_Mod_isOn_12 (by decide) ?_
  refine pw_iand e_Mod_isOn_13 ?_
  refine pw_iconst (v := nI 1) e_Mod_isOn_14 (by decide) ?_
  refine pw_icmp_ne (tgt := 22) e_Mod_isOn_15 (by decide) (fun (H1 : ¬ (((c (b + 205)) >>> ((nI (d)) &&& 31)) &&& 1) = 1) => ?_) (fun (H1 : (((c (b + 205)) >>> ((nI (d)) &&& 31)) &&& 1) = 1) => ?_)
  · refine pw_iconst (v := nI 0) e_Mod_isOn_22 (by decide) ?_
    refine pw_iret e_Mod_isOn_23 rfl (by decide) ?_
    rw [f_Mod_isOn, if_neg H1] at hk
    exact hk
  · refine pw_iconst (v := nI 1) e_Mod_isOn_18 (by decide) ?_
    refine pw_goto (tgt := 23) e_Mod_isOn_19 (by decide) ?_
    refine pw_iret e_Mod_isOn_23 rfl (by decide) ?_
    rw [f_Mod_isOn, if_pos H1] at hk
    exact hk
theorem q_Mod_isOn {g : GG} {h : Hp} (hst : (gl g).stackTraces = false) {A : Nat → Nat} {P : Nat → Nat → Int32} (hP : ∀ e, ModAt g A P (va_up h (A 0) e)) (hw : wfM P) (b : Nat) (d : Nat) (hb : b + 600 ≤ 18060)  (c : Nat → Int32) (hm : h (A 0) = some (aI g 18060 c)) : PM g M_Mod_isOn 1 0 0 [.ref (A 100), .int (nI (b)), .int (nI (d))] h (RetV (some (.int (f_Mod_isOn P b d c))) h) := by
  refine PM.of hst (by decide) rfl (fun v hv => ?_) (Nat.le_of_ble_eq_true rfl) ?_
  · simp only [List.mem_cons, List.not_mem_nil, or_false] at hv; rcases hv with rfl | rfl | rfl <;> rfl
  · have hq := w_Mod_isOn_0 (g := g) (Q := RetV (some (.int (f_Mod_isOn P b d c))) h) (h := h) (kc := 0) (ks := 0) hst hP hw b d hb c ?_
    · rw [up_self hm] at hq; exact hq
    · exact ⟨rfl, up_self hm⟩

def f_Mod_isWithin (P : Nat → Nat → Int32) (l : Nat) : Int32 :=
  if (pN P 1 (pN P 8 l)) = (pN P 1 (pN P 9 l)) then 1 else 0
set_option maxRecDepth 4000 in
theorem w_Mod_isWithin_0 {g : GG} {Q : QT} {h : Hp} {kc ks : Nat} (hst : (gl g).stackTraces = false) {A : Nat → Nat} {P : Nat → Nat → Int32} (hP : ModAt g A P h) (hw : wfM P) (l : Nat) (hl : l < 12)  (hk : Q (.inl (some (.int (f_Mod_isWithin P l)))) h) : PW g M_Mod_isWithin 0 kc ks Q 0 [.ref (A 100), .int (nI (l))] [] h := by
  have hz0 := hw.blk.2
  have hz1 := hw.lnk.2
  have hz2 := hw.dvs.2
  refine pw_aload_n e_Mod_isWithin_0 rfl ?_
  refine pw_getf e_Mod_isWithin_1 fl_Mod_13 hP.o rfl ?_
  refine pw_aload_n e_Mod_isWithin_4 rfl ?_
  refine pw_getf e_Mod_isWithin_5 fl_Mod_34 hP.o rfl ?_
  refine pw_iload_n e_Mod_isWithin_8 rfl ?_
  have hb1 := hw.frm l
  refine pw_ialdC e_Mod_isWithin_9 hP.a8 (by omega) (by decide) hb1.1 ?_
  replace hb1 := hb1.2
  have hb2 := hw.dev (pN P 8 l)
  refine pw_ialdC e_Mod_isWithin_10 hP.a1 (by omega) (by decide) hb2.1 ?_
  replace hb2 := hb2.2
  refine pw_aload_n e_Mod_isWithin_11 rfl ?_
  refine pw_getf e_Mod_isWithin_12 fl_Mod_13 hP.o rfl ?_
  refine pw_aload_n e_Mod_isWithin_15 rfl ?_
  refine pw_getf e_Mod_isWithin_16 fl_Mod_37 hP.o rfl ?_
  refine pw_iload_n e_Mod_isWithin_19 rfl ?_
  have hb3 := hw.to l
  refine pw_ialdC e_Mod_isWithin_20 hP.a9 (by omega) (by decide) hb3.1 ?_
  replace hb3 := hb3.2
  have hb4 := hw.dev (pN P 9 l)
  refine pw_ialdC e_Mod_isWithin_21 hP.a1 (by omega) (by decide) hb4.1 ?_
  replace hb4 := hb4.2
  refine pw_icmp_neN (tgt := 29) e_Mod_isWithin_22 (by decide) (by omega) (by omega) (fun (H5 : ¬ (pN P 1 (pN P 8 l)) = (pN P 1 (pN P 9 l))) => ?_) (fun (H5 : (pN P 1 (pN P 8 l)) = (pN P 1 (pN P 9 l))) => ?_)
  · refine pw_iconst (v := nI 0) e_Mod_isWithin_29 (by decide) ?_
    refine pw_iret e_Mod_isWithin_30 rfl (by decide) ?_
    rw [f_Mod_isWithin, if_neg H5] at hk
    exact hk
  · refine pw_iconst (v := nI 1) e_Mod_isWithin_25 (by decide) ?_
    refine pw_goto (tgt := 30) e_Mod_isWithin_26 (by decide) ?_
    refine pw_iret e_Mod_isWithin_30 rfl (by decide) ?_
    rw [f_Mod_isWithin, if_pos H5] at hk
    exact hk
theorem q_Mod_isWithin {g : GG} {h : Hp} (hst : (gl g).stackTraces = false) {A : Nat → Nat} {P : Nat → Nat → Int32} (hP : ModAt g A P h) (hw : wfM P) (l : Nat) (hl : l < 12)  : PM g M_Mod_isWithin 0 0 0 [.ref (A 100), .int (nI (l))] h (RetV (some (.int (f_Mod_isWithin P l))) h) := by
  refine PM.of hst (by decide) rfl (fun v hv => ?_) (Nat.le_of_ble_eq_true rfl) ?_
  · simp only [List.mem_cons, List.not_mem_nil, or_false] at hv; rcases hv with rfl | rfl <;> rfl
  · have hq := w_Mod_isWithin_0 (g := g) (Q := RetV (some (.int (f_Mod_isWithin P l))) h) (h := h) (kc := 0) (ks := 0) hst hP hw l hl ?_
    · exact hq
    · exact ⟨rfl, rfl⟩

def f_Mod_gainOf (P : Nat → Nat → Int32) (k : Nat) : Int32 :=
  if (nI (k)) = (P 100 44) then P 100 45 else nI (pN P 4 k)
set_option maxRecDepth 4000 in
theorem w_Mod_gainOf_0 {g : GG} {Q : QT} {h : Hp} {kc ks : Nat} (hst : (gl g).stackTraces = false) {A : Nat → Nat} {P : Nat → Nat → Int32} (hP : ModAt g A P h) (hw : wfM P) (k : Nat) (hkk : k < 10)  (hk : Q (.inl (some (.int (f_Mod_gainOf P k)))) h) : PW g M_Mod_gainOf 0 kc ks Q 0 [.ref (A 100), .int (nI (k))] [] h := by
  have hz0 := hw.blk.2
  have hz1 := hw.lnk.2
  have hz2 := hw.dvs.2
  refine pw_iload_n e_Mod_gainOf_0 rfl ?_
  refine pw_aload_n e_Mod_gainOf_1 rfl ?_
  refine pw_getf e_Mod_gainOf_2 fl_Mod_105 hP.o rfl ?_
  refine pw_icmp_ne (tgt := 15) e_Mod_gainOf_5 (by decide) (fun (H1 : ¬ (nI (k)) = (P 100 44)) => ?_) (fun (H1 : (nI (k)) = (P 100 44)) => ?_)
  · refine pw_aload_n e_Mod_gainOf_15 rfl ?_
    refine pw_getf e_Mod_gainOf_16 fl_Mod_22 hP.o rfl ?_
    refine pw_iload_n e_Mod_gainOf_19 rfl ?_
    have hb2 := hw.one k
    refine pw_ialdC e_Mod_gainOf_20 hP.a4 (by omega) (by decide) hb2.1 ?_
    replace hb2 := hb2.2
    refine pw_iret e_Mod_gainOf_21 rfl rfl ?_
    rw [f_Mod_gainOf, if_neg H1] at hk
    exact hk
  · refine pw_aload_n e_Mod_gainOf_8 rfl ?_
    refine pw_getf e_Mod_gainOf_9 fl_Mod_202 hP.o rfl ?_
    refine pw_goto (tgt := 21) e_Mod_gainOf_12 (by decide) ?_
    refine pw_iret e_Mod_gainOf_21 rfl rfl ?_
    rw [f_Mod_gainOf, if_pos H1] at hk
    exact hk
theorem q_Mod_gainOf {g : GG} {h : Hp} (hst : (gl g).stackTraces = false) {A : Nat → Nat} {P : Nat → Nat → Int32} (hP : ModAt g A P h) (hw : wfM P) (k : Nat) (hkk : k < 10)  : PM g M_Mod_gainOf 0 0 0 [.ref (A 100), .int (nI (k))] h (RetV (some (.int (f_Mod_gainOf P k))) h) := by
  refine PM.of hst (by decide) rfl (fun v hv => ?_) (Nat.le_of_ble_eq_true rfl) ?_
  · simp only [List.mem_cons, List.not_mem_nil, or_false] at hv; rcases hv with rfl | rfl <;> rfl
  · have hq := w_Mod_gainOf_0 (g := g) (Q := RetV (some (.int (f_Mod_gainOf P k))) h) (h := h) (kc := 0) (ks := 0) hst hP hw k hkk ?_
    · exact hq
    · exact ⟨rfl, rfl⟩

def f_Mod_doesCome (P : Nat → Nat → Int32) (b : Nat) (l : Nat) (k : Nat) (c : Nat → Int32) : Int32 :=
  if (f_Mod_isOn P b (pN P 1 k) c) = 0 then 0 else if (f_Mod_isWithin P l) = 0 then if (c (b + 206)) = ((-1)) then 0 else if (f_Mod_isOn P b (pN P 1 (pN P 8 l)) c) = 0 then 0 else if (f_Mod_isOn P b (pN P 1 (pN P 9 l)) c) = 0 then 0 else 1 else 1
set_option maxRecDepth 4000 in
theorem w_Mod_doesCome_0 {g : GG} {Q : QT} {h : Hp} {kc ks : Nat} (hst : (gl g).stackTraces = false) {A : Nat → Nat} {P : Nat → Nat → Int32} (hP : ∀ e, ModAt g A P (va_up h (A 0) e)) (hw : wfM P) (b : Nat) (l : Nat) (k : Nat) (hb : b + 600 ≤ 18060) (hl : l < 12) (hkk : k < 10)  (c : Nat → Int32) (hk : Q (.inl (some (.int (f_Mod_doesCome P b l k c)))) (va_up h (A 0) (some (aI g 18060 (c))))) : PW g M_Mod_doesCome 2 kc ks Q 0 [.ref (A 100), .int (nI (b)), .int (nI (l)), .int (nI (k))] [] (va_up h (A 0) (some (aI g 18060 (c)))) := by
  have hz0 := hw.blk.2
  have hz1 := hw.lnk.2
  have hz2 := hw.dvs.2
  refine pw_aload_n e_Mod_doesCome_0 rfl ?_
  refine pw_iload_n e_Mod_doesCome_1 rfl ?_
  refine pw_aload_n e_Mod_doesCome_2 rfl ?_
  refine pw_getf e_Mod_doesCome_3 fl_Mod_13 (hP _).o rfl ?_
  refine pw_iload_n e_Mod_doesCome_6 rfl ?_
  have hb1 := hw.dev k
  refine pw_ialdC e_Mod_doesCome_7 (hP _).a1 (by omega) (by decide) hb1.1 ?_
  replace hb1 := hb1.2
  refine pw_detV (As := [.int (nI (b)), .int (nI (pN P 1 k))]) e_Mod_doesCome_8 li_Mod_205 rfl (hP _).o (q_Mod_isOn hst (fun e => by rw [up_up]; exact hP e) hw b (pN P 1 k) (by omega) c up_same) rfl (by decide) (Nat.le_of_ble_eq_true rfl) rfl ?_
  refine pw_if_ne (tgt := 16) e_Mod_doesCome_11 (by decide) (fun (H2 : ¬ (f_Mod_isOn P b (pN P 1 k) c) = 0) => ?_) (fun (H2 : (f_Mod_isOn P b (pN P 1 k) c) = 0) => ?_)
  · refine pw_aload_n e_Mod_doesCome_16 rfl ?_
    refine pw_iload_n e_Mod_doesCome_17 rfl ?_
    refine pw_detV (As := [.int (nI (l))]) e_Mod_doesCome_18 li_Mod_175 rfl (hP _).o (q_Mod_isWithin hst (hP _) hw l (by omega)) rfl (by decide) (Nat.le_of_ble_eq_true rfl) rfl ?_
    refine pw_if_ne (tgt := 76) e_Mod_doesCome_21 (by decide) (fun (H3 : ¬ (f_Mod_isWithin P l) = 0) => ?_) (fun (H3 : (f_Mod_isWithin P l) = 0) => ?_)
    · refine pw_iconst (v := nI 1) e_Mod_doesCome_76 (by decide) ?_
      refine pw_goto (tgt := 81) e_Mod_doesCome_77 (by decide) ?_
      refine pw_iret e_Mod_doesCome_81 rfl (by decide) ?_
      rw [f_Mod_doesCome, if_neg H2, if_neg H3] at hk
      exact hk
    · refine pw_aload_n e_Mod_doesCome_24 rfl ?_
      refine pw_getf e_Mod_doesCome_25 fl_Mod_9 (hP _).o rfl ?_
      refine pw_iload_n e_Mod_doesCome_28 rfl ?_
      refine pw_sipush (v := nI 206) e_Mod_doesCome_29 (by decide) ?_
      refine pw_iaddN e_Mod_doesCome_32 ?_
      refine pw_ialdN e_Mod_doesCome_33 up_same (by omega) (by decide) ?_
      refine pw_iconst (v := (-1)) e_Mod_doesCome_34 (by decide) ?_
      refine pw_icmp_eq (tgt := 80) e_Mod_doesCome_35 (by decide) (fun (H4 : (c (b + 206)) = ((-1))) => ?_) (fun (H4 : ¬ (c (b + 206)) = ((-1))) => ?_)
      · refine pw_iconst (v := nI 0) e_Mod_doesCome_80 (by decide) ?_
        refine pw_iret e_Mod_doesCome_81 rfl (by decide) ?_
        rw [f_Mod_doesCome, if_neg H2, if_pos H3, if_pos H4] at hk
        exact hk
      · refine pw_aload_n e_Mod_doesCome_38 rfl ?_
        refine pw_iload_n e_Mod_doesCome_39 rfl ?_
        refine pw_aload_n e_Mod_doesCome_40 rfl ?_
        refine pw_getf e_Mod_doesCome_41 fl_Mod_13 (hP _).o rfl ?_
        refine pw_aload_n e_Mod_doesCome_44 rfl ?_
        refine pw_getf e_Mod_doesCome_45 fl_Mod_34 (hP _).o rfl ?_
        refine pw_iload_n e_Mod_doesCome_48 rfl ?_
        have hb5 := hw.frm l
        refine pw_ialdC e_Mod_doesCome_49 (hP _).a8 (by omega) (by decide) hb5.1 ?_
        replace hb5 := hb5.2
        have hb6 := hw.dev (pN P 8 l)
        refine pw_ialdC e_Mod_doesCome_50 (hP _).a1 (by omega) (by decide) hb6.1 ?_
        replace hb6 := hb6.2
        refine pw_detV (As := [.int (nI (b)), .int (nI (pN P 1 (pN P 8 l)))]) e_Mod_doesCome_51 li_Mod_205 rfl (hP _).o (q_Mod_isOn hst (fun e => by rw [up_up]; exact hP e) hw b (pN P 1 (pN P 8 l)) (by omega) c up_same) rfl (by decide) (Nat.le_of_ble_eq_true rfl) rfl ?_
        refine pw_if_eq (tgt := 80) e_Mod_doesCome_54 (by decide) (fun (H7 : (f_Mod_isOn P b (pN P 1 (pN P 8 l)) c) = 0) => ?_) (fun (H7 : ¬ (f_Mod_isOn P b (pN P 1 (pN P 8 l)) c) = 0) => ?_)
        · refine pw_iconst (v := nI 0) e_Mod_doesCome_80 (by decide) ?_
          refine pw_iret e_Mod_doesCome_81 rfl (by decide) ?_
          rw [f_Mod_doesCome, if_neg H2, if_pos H3, if_neg H4, if_pos H7] at hk
          exact hk
        · refine pw_aload_n e_Mod_doesCome_57 rfl ?_
          refine pw_iload_n e_Mod_doesCome_58 rfl ?_
          refine pw_aload_n e_Mod_doesCome_59 rfl ?_
          refine pw_getf e_Mod_doesCome_60 fl_Mod_13 (hP _).o rfl ?_
          refine pw_aload_n e_Mod_doesCome_63 rfl ?_
          refine pw_getf e_Mod_doesCome_64 fl_Mod_37 (hP _).o rfl ?_
          refine pw_iload_n e_Mod_doesCome_67 rfl ?_
          have hb8 := hw.to l
          refine pw_ialdC e_Mod_doesCome_68 (hP _).a9 (by omega) (by decide) hb8.1 ?_
          replace hb8 := hb8.2
          have hb9 := hw.dev (pN P 9 l)
          refine pw_ialdC e_Mod_doesCome_69 (hP _).a1 (by omega) (by decide) hb9.1 ?_
          replace hb9 := hb9.2
          refine pw_detV (As := [.int (nI (b)), .int (nI (pN P 1 (pN P 9 l)))]) e_Mod_doesCome_70 li_Mod_205 rfl (hP _).o (q_Mod_isOn hst (fun e => by rw [up_up]; exact hP e) hw b (pN P 1 (pN P 9 l)) (by omega) c up_same) rfl (by decide) (Nat.le_of_ble_eq_true rfl) rfl ?_
          refine pw_if_eq (tgt := 80) e_Mod_doesCome_73 (by decide) (fun (H10 : (f_Mod_isOn P b (pN P 1 (pN P 9 l)) c) = 0) => ?_) (fun (H10 : ¬ (f_Mod_isOn P b (pN P 1 (pN P 9 l)) c) = 0) => ?_)
          · refine pw_iconst (v := nI 0) e_Mod_doesCome_80 (by decide) ?_
            refine pw_iret e_Mod_doesCome_81 rfl (by decide) ?_
            rw [f_Mod_doesCome, if_neg H2, if_pos H3, if_neg H4, if_neg H7, if_pos H10] at hk
            exact hk
          · refine pw_iconst (v := nI 1) e_Mod_doesCome_76 (by decide) ?_
            refine pw_goto (tgt := 81) e_Mod_doesCome_77 (by decide) ?_
            refine pw_iret e_Mod_doesCome_81 rfl (by decide) ?_
            rw [f_Mod_doesCome, if_neg H2, if_pos H3, if_neg H4, if_neg H7, if_neg H10] at hk
            exact hk
  · refine pw_iconst (v := nI 0) e_Mod_doesCome_14 (by decide) ?_
    refine pw_iret e_Mod_doesCome_15 rfl (by decide) ?_
    rw [f_Mod_doesCome, if_pos H2] at hk
    exact hk
theorem q_Mod_doesCome {g : GG} {h : Hp} (hst : (gl g).stackTraces = false) {A : Nat → Nat} {P : Nat → Nat → Int32} (hP : ∀ e, ModAt g A P (va_up h (A 0) e)) (hw : wfM P) (b : Nat) (l : Nat) (k : Nat) (hb : b + 600 ≤ 18060) (hl : l < 12) (hkk : k < 10)  (c : Nat → Int32) (hm : h (A 0) = some (aI g 18060 c)) : PM g M_Mod_doesCome 2 0 0 [.ref (A 100), .int (nI (b)), .int (nI (l)), .int (nI (k))] h (RetV (some (.int (f_Mod_doesCome P b l k c))) h) := by
  refine PM.of hst (by decide) rfl (fun v hv => ?_) (Nat.le_of_ble_eq_true rfl) ?_
  · simp only [List.mem_cons, List.not_mem_nil, or_false] at hv; rcases hv with rfl | rfl | rfl | rfl <;> rfl
  · have hq := w_Mod_doesCome_0 (g := g) (Q := RetV (some (.int (f_Mod_doesCome P b l k c))) h) (h := h) (kc := 0) (ks := 0) hst hP hw b l k hb hl hkk c ?_
    · rw [up_self hm] at hq; exact hq
    · exact ⟨rfl, up_self hm⟩

def f_Mod_ages_21 (P : Nat → Nat → Int32) (x : Nat) (y : Nat) (c : Nat → Int32) : Nat → Int32 :=
  if (c x) ≤ (P 100 22) then c else upd c y 0
set_option maxRecDepth 4000 in
theorem w_Mod_ages_21 {g : GG} {Q : QT} {h : Hp} {kc ks : Nat} (hst : (gl g).stackTraces = false) {A : Nat → Nat} {P : Nat → Nat → Int32} (hP : ∀ e, ModAt g A P (va_up h (A 0) e)) (hw : wfM P) (x : Nat) (y : Nat) (hx : x < 18060) (hy : y < 18060)  (c : Nat → Int32) (hk : Q (.inl none) (va_up h (A 0) (some (aI g 18060 (f_Mod_ages_21 P x y c))))) : PW g M_Mod_ages 0 kc ks Q 21 [.ref (A 100), .int (nI (x)), .int (nI (y))] [] (va_up h (A 0) (some (aI g 18060 (c)))) := by
  have hz0 := hw.blk.2
  have hz1 := hw.lnk.2
  have hz2 := hw.dvs.2
  refine pw_aload_n e_Mod_ages_21 rfl ?_
  refine pw_getf e_Mod_ages_22 fl_Mod_9 (hP _).o rfl ?_
  refine pw_iload_n e_Mod_ages_25 rfl ?_
  refine pw_ialdN e_Mod_ages_26 up_same (by omega) (by decide) ?_
  refine pw_aload_n e_Mod_ages_27 rfl ?_
  refine pw_getf e_Mod_ages_28 fl_Mod_68 (hP _).o rfl ?_
  refine pw_icmp_le (tgt := 41) e_Mod_ages_31 (by decide) (fun (H1 : (c x) ≤ (P 100 22)) => ?_) (fun (H1 : ¬ (c x) ≤ (P 100 22)) => ?_)
  · refine pw_vret e_Mod_ages_41 rfl ?_
    rw [f_Mod_ages_21, if_pos H1] at hk
    exact hk
  · refine pw_aload_n e_Mod_ages_34 rfl ?_
    refine pw_getf e_Mod_ages_35 fl_Mod_9 (hP _).o rfl ?_
    refine pw_iload_n e_Mod_ages_38 rfl ?_
    refine pw_iconst (v := nI 0) e_Mod_ages_39 (by decide) ?_
    refine pw_iastU e_Mod_ages_40 (by omega) (by decide) ?_
    refine pw_vret e_Mod_ages_41 rfl ?_
    rw [f_Mod_ages_21, if_neg H1] at hk
    exact hk
def f_Mod_ages (P : Nat → Nat → Int32) (x : Nat) (y : Nat) (c : Nat → Int32) : Nat → Int32 :=
  if 99 ≤ (c x) then f_Mod_ages_21 P x y c else f_Mod_ages_21 P x y (upd c x ((c x) + 1))
set_option maxRecDepth 4000 in
theorem w_Mod_ages_0 {g : GG} {Q : QT} {h : Hp} {kc ks : Nat} (hst : (gl g).stackTraces = false) {A : Nat → Nat} {P : Nat → Nat → Int32} (hP : ∀ e, ModAt g A P (va_up h (A 0) e)) (hw : wfM P) (x : Nat) (y : Nat) (hx : x < 18060) (hy : y < 18060)  (c : Nat → Int32) (hk : Q (.inl none) (va_up h (A 0) (some (aI g 18060 (f_Mod_ages P x y c))))) : PW g M_Mod_ages 0 kc ks Q 0 [.ref (A 100), .int (nI (x)), .int (nI (y))] [] (va_up h (A 0) (some (aI g 18060 (c)))) := by
  have hz0 := hw.blk.2
  have hz1 := hw.lnk.2
  have hz2 := hw.dvs.2
  refine pw_aload_n e_Mod_ages_0 rfl ?_
  refine pw_getf e_Mod_ages_1 fl_Mod_9 (hP _).o rfl ?_
  refine pw_iload_n e_Mod_ages_4 rfl ?_
  refine pw_ialdN e_Mod_ages_5 up_same (by omega) (by decide) ?_
  refine pw_bipush (v := nI 99) e_Mod_ages_6 (by decide) ?_
  refine pw_icmp_ge (tgt := 21) e_Mod_ages_8 (by decide) (fun (H1 : 99 ≤ (c x)) => ?_) (fun (H1 : ¬ 99 ≤ (c x)) => ?_)
  · refine w_Mod_ages_21 hst hP hw x y hx hy c ?_
    rw [f_Mod_ages, if_pos H1] at hk
    exact hk
  · refine pw_aload_n e_Mod_ages_11 rfl ?_
    refine pw_getf e_Mod_ages_12 fl_Mod_9 (hP _).o rfl ?_
    refine pw_iload_n e_Mod_ages_15 rfl ?_
    refine pw_dup2 e_Mod_ages_16 rfl rfl ?_
    refine pw_ialdN e_Mod_ages_17 up_same (by omega) (by decide) ?_
    refine pw_iconst (v := nI 1) e_Mod_ages_18 (by decide) ?_
    refine pw_iadd e_Mod_ages_19 ?_
    refine pw_iastU e_Mod_ages_20 (by omega) (by decide) ?_
    refine w_Mod_ages_21 hst hP hw x y hx hy (upd c x ((c x) + 1)) ?_
    rw [f_Mod_ages, if_neg H1] at hk
    exact hk
theorem q_Mod_ages {g : GG} {h : Hp} (hst : (gl g).stackTraces = false) {A : Nat → Nat} {P : Nat → Nat → Int32} (hP : ∀ e, ModAt g A P (va_up h (A 0) e)) (hw : wfM P) (x : Nat) (y : Nat) (hx : x < 18060) (hy : y < 18060)  (c : Nat → Int32) (hm : h (A 0) = some (aI g 18060 c)) : PM g M_Mod_ages 0 0 0 [.ref (A 100), .int (nI (x)), .int (nI (y))] h (RetV none (va_up h (A 0) (some (aI g 18060 (f_Mod_ages P x y c))))) := by
  refine PM.of hst (by decide) rfl (fun v hv => ?_) (Nat.le_of_ble_eq_true rfl) ?_
  · simp only [List.mem_cons, List.not_mem_nil, or_false] at hv; rcases hv with rfl | rfl | rfl <;> rfl
  · have hq := w_Mod_ages_0 (g := g) (Q := RetV none (va_up h (A 0) (some (aI g 18060 (f_Mod_ages P x y c))))) (h := h) (kc := 0) (ks := 0) hst hP hw x y hx hy c ?_
    · rw [up_self hm] at hq; exact hq
    · exact ⟨rfl, rfl⟩

def f_Mod_comes (P : Nat → Nat → Int32) (b : Nat) (l : Nat) (c : Nat → Int32) : Nat → Int32 :=
  if (f_Mod_doesCome P b l (pN P 9 l) c) = 0 then f_Mod_ages P ((b + 80 + 10 * l) + 4) ((b + 80 + 10 * l) + 1) c else upd (upd (upd (upd (upd c ((b + 80 + 10 * l) + 0) (c ((b + 8 * (pN P 8 l)) + 3))) ((b + 80 + 10 * l) + 1) ((upd c ((b + 80 + 10 * l) + 0) (c ((b + 8 * (pN P 8 l)) + 3))) ((b + 8 * (pN P 8 l)) + 5))) ((b + 80 + 10 * l) + 2) ((upd (upd c ((b + 80 + 10 * l) + 0) (c ((b + 8 * (pN P 8 l)) + 3))) ((b + 80 + 10 * l) + 1) ((upd c ((b + 80 + 10 * l) + 0) (c ((b + 8 * (pN P 8 l)) + 3))) ((b + 8 * (pN P 8 l)) + 5))) ((b + 8 * (pN P 8 l)) + 6))) ((b + 80 + 10 * l) + 3) ((upd (upd (upd c ((b + 80 + 10 * l) + 0) (c ((b + 8 * (pN P 8 l)) + 3))) ((b + 80 + 10 * l) + 1) ((upd c ((b + 80 + 10 * l) + 0) (c ((b + 8 * (pN P 8 l)) + 3))) ((b + 8 * (pN P 8 l)) + 5))) ((b + 80 + 10 * l) + 2) ((upd (upd c ((b + 80 + 10 * l) + 0) (c ((b + 8 * (pN P 8 l)) + 3))) ((b + 80 + 10 * l) + 1) ((upd c ((b + 80 + 10 * l) + 0) (c ((b + 8 * (pN P 8 l)) + 3))) ((b + 8 * (pN P 8 l)) + 5))) ((b + 8 * (pN P 8 l)) + 6))) ((b + 8 * (pN P 8 l)) + 7))) ((b + 80 + 10 * l) + 4) 0
set_option maxRecDepth 4000 in
theorem w_Mod_comes_0 {g : GG} {Q : QT} {h : Hp} {kc ks : Nat} (hst : (gl g).stackTraces = false) {A : Nat → Nat} {P : Nat → Nat → Int32} (hP : ∀ e, ModAt g A P (va_up h (A 0) e)) (hw : wfM P) (b : Nat) (l : Nat) (hb : b + 600 ≤ 18060) (hl : l < 12)  (c : Nat → Int32) (hk : Q (.inl none) (va_up h (A 0) (some (aI g 18060 (f_Mod_comes P b l c))))) : PW g M_Mod_comes 3 kc ks Q 0 [.ref (A 100), .int (nI (b)), .int (nI (l)), .retAddr 0, .retAddr 0] [] (va_up h (A 0) (some (aI g 18060 (c)))) := by
  have hz0 := hw.blk.2
  have hz1 := hw.lnk.2
  have hz2 := hw.dvs.2
  refine pw_iload_n e_Mod_comes_0 rfl ?_
  refine pw_iload_n e_Mod_comes_1 rfl ?_
  refine pw_detS (As := [.int (nI (b)), .int (nI (l))]) e_Mod_comes_2 li_Mod_199 (q_linkAt hst b l) rfl (by decide) (Nat.le_of_ble_eq_true rfl) rfl ?_
  refine pw_istore_n (ls2 := [_, _, _, _, _]) e_Mod_comes_5 (by decide) rfl ?_
  refine pw_aload_n e_Mod_comes_6 rfl ?_
  refine pw_iload_n e_Mod_comes_7 rfl ?_
  refine pw_iload_n e_Mod_comes_8 rfl ?_
  refine pw_aload_n e_Mod_comes_9 rfl ?_
  refine pw_getf e_Mod_comes_10 fl_Mod_37 (hP _).o rfl ?_
  refine pw_iload_n e_Mod_comes_13 rfl ?_
  have hb2 := hw.to l
  refine pw_ialdC e_Mod_comes_14 (hP _).a9 (by omega) (by decide) hb2.1 ?_
  replace hb2 := hb2.2
  refine pw_detV (As := [.int (nI (b)), .int (nI (l)), .int (nI (pN P 9 l))]) e_Mod_comes_15 li_Mod_209 rfl (hP _).o (q_Mod_doesCome hst (fun e => by rw [up_up]; exact hP e) hw b l (pN P 9 l) (by omega) (by omega) (by omega) c up_same) rfl (by decide) (Nat.le_of_ble_eq_true rfl) rfl ?_
  refine pw_if_ne (tgt := 32) e_Mod_comes_18 (by decide) (fun (H3 : ¬ (f_Mod_doesCome P b l (pN P 9 l) c) = 0) => ?_) (fun (H3 : (f_Mod_doesCome P b l (pN P 9 l) c) = 0) => ?_)
  · refine pw_iload_n e_Mod_comes_32 rfl ?_
    refine pw_aload_n e_Mod_comes_33 rfl ?_
    refine pw_getf e_Mod_comes_34 fl_Mod_34 (hP _).o rfl ?_
    refine pw_iload_n e_Mod_comes_37 rfl ?_
    have hb4 := hw.frm l
    refine pw_ialdC e_Mod_comes_38 (hP _).a8 (by omega) (by decide) hb4.1 ?_
    replace hb4 := hb4.2
    refine pw_detS (As := [.int (nI (b)), .int (nI (pN P 8 l))]) e_Mod_comes_39 li_Mod_193 (q_at hst b (pN P 8 l)) rfl (by decide) (Nat.le_of_ble_eq_true rfl) rfl ?_
    refine pw_istore (ls2 := [_, _, _, _, _]) e_Mod_comes_42 (by decide) rfl ?_
    refine pw_aload_n e_Mod_comes_44 rfl ?_
    refine pw_getf e_Mod_comes_45 fl_Mod_9 (hP _).o rfl ?_
    refine pw_iload_n e_Mod_comes_48 rfl ?_
    refine pw_iconst (v := nI 0) e_Mod_comes_49 (by decide) ?_
    refine pw_iaddN e_Mod_comes_50 ?_
    refine pw_aload_n e_Mod_comes_51 rfl ?_
    refine pw_getf e_Mod_comes_52 fl_Mod_9 (hP _).o rfl ?_
    refine pw_iload e_Mod_comes_55 rfl ?_
    refine pw_iconst (v := nI 3) e_Mod_comes_57 (by decide) ?_
    refine pw_iaddN e_Mod_comes_58 ?_
    refine pw_ialdN e_Mod_comes_59 up_same (by omega) (by decide) ?_
    refine pw_iastU e_Mod_comes_60 (by omega) (by decide) ?_
    refine pw_aload_n e_Mod_comes_61 rfl ?_
    refine pw_getf e_Mod_comes_62 fl_Mod_9 (hP _).o rfl ?_
    refine pw_iload_n e_Mod_comes_65 rfl ?_
    refine pw_iconst (v := nI 1) e_Mod_comes_66 (by decide) ?_
    refine pw_iaddN e_Mod_comes_67 ?_
    refine pw_aload_n e_Mod_comes_68 rfl ?_
    refine pw_getf e_Mod_comes_69 fl_Mod_9 (hP _).o rfl ?_
    refine pw_iload e_Mod_comes_72 rfl ?_
    refine pw_iconst (v := nI 5) e_Mod_comes_74 (by decide) ?_
    refine pw_iaddN e_Mod_comes_75 ?_
    refine pw_ialdN e_Mod_comes_76 up_same (by omega) (by decide) ?_
    refine pw_iastU e_Mod_comes_77 (by omega) (by decide) ?_
    refine pw_aload_n e_Mod_comes_78 rfl ?_
    refine pw_getf e_Mod_comes_79 fl_Mod_9 (hP _).o rfl ?_
    refine pw_iload_n e_Mod_comes_82 rfl ?_
    refine pw_iconst (v := nI 2) e_Mod_comes_83 (by decide) ?_
    refine pw_iaddN e_Mod_comes_84 ?_
    refine pw_aload_n e_Mod_comes_85 rfl ?_
    refine pw_getf e_Mod_comes_86 fl_Mod_9 (hP _).o rfl ?_
    refine pw_iload e_Mod_comes_89 rfl ?_
    refine pw_bipush (v := nI 6) e_Mod_comes_91 (by decide) ?_
    refine pw_iaddN e_Mod_comes_93 ?_
    refine pw_ialdN e_Mod_comes_94 up_same (by omega) (by decide) ?_
    refine pw_iastU e_Mod_comes_95 (by omega) (by decide) ?_
    refine pw_aload_n e_Mod_comes_96 rfl ?_
    refine pw_getf e_Mod_comes_97 fl_Mod_9 (hP _).o rfl ?_
    refine pw_iload_n e_Mod_comes_100 rfl ?_
    refine pw_iconst (v := nI 3) e_Mod_comes_101 (by decide) ?_
    refine pw_iaddN e_Mod_comes_102 ?_
    refine pw_aload_n e_Mod_comes_103 rfl ?_
    refine pw_getf e_Mod_comes_104 fl_Mod_9 (hP _).o rfl ?_
    refine pw_iload e_Mod_comes_107 rfl ?_
    refine pw_bipush (v := nI 7) e_Mod_comes_109 (by decide) ?_
    refine pw_iaddN e_Mod_comes_111 ?_
    refine pw_ialdN e_Mod_comes_112 up_same (by omega) (by decide) ?_
    refine pw_iastU e_Mod_comes_113 (by omega) (by decide) ?_
    refine pw_aload_n e_Mod_comes_114 rfl ?_
    refine pw_getf e_Mod_comes_115 fl_Mod_9 (hP _).o rfl ?_
    refine pw_iload_n e_Mod_comes_118 rfl ?_
    refine pw_iconst (v := nI 4) e_Mod_comes_119 (by decide) ?_
    refine pw_iaddN e_Mod_comes_120 ?_
    refine pw_iconst (v := nI 0) e_Mod_comes_121 (by decide) ?_
    refine pw_iastU e_Mod_comes_122 (by omega) (by decide) ?_
    refine pw_vret e_Mod_comes_123 rfl ?_
    rw [f_Mod_comes, if_neg H3] at hk
    exact hk
  · refine pw_aload_n e_Mod_comes_21 rfl ?_
    refine pw_iload_n e_Mod_comes_22 rfl ?_
    refine pw_iconst (v := nI 4) e_Mod_comes_23 (by decide) ?_
    refine pw_iaddN e_Mod_comes_24 ?_
    refine pw_iload_n e_Mod_comes_25 rfl ?_
    refine pw_iconst (v := nI 1) e_Mod_comes_26 (by decide) ?_
    refine pw_iaddN e_Mod_comes_27 ?_
    refine pw_detV (As := [.int (nI ((b + 80 + 10 * l) + 4)), .int (nI ((b + 80 + 10 * l) + 1))]) e_Mod_comes_28 li_Mod_213 rfl (hP _).o (q_Mod_ages hst (fun e => by rw [up_up]; exact hP e) hw ((b + 80 + 10 * l) + 4) ((b + 80 + 10 * l) + 1) (by omega) (by omega) c up_same) rfl (by decide) (Nat.le_of_ble_eq_true rfl) rfl ?_
    rw [up_up]
    refine pw_vret e_Mod_comes_31 rfl ?_
    rw [f_Mod_comes, if_pos H3] at hk
    exact hk
theorem q_Mod_comes {g : GG} {h : Hp} (hst : (gl g).stackTraces = false) {A : Nat → Nat} {P : Nat → Nat → Int32} (hP : ∀ e, ModAt g A P (va_up h (A 0) e)) (hw : wfM P) (b : Nat) (l : Nat) (hb : b + 600 ≤ 18060) (hl : l < 12)  (c : Nat → Int32) (hm : h (A 0) = some (aI g 18060 c)) : PM g M_Mod_comes 3 0 0 [.ref (A 100), .int (nI (b)), .int (nI (l))] h (RetV none (va_up h (A 0) (some (aI g 18060 (f_Mod_comes P b l c))))) := by
  refine PM.of hst (by decide) rfl (fun v hv => ?_) (Nat.le_of_ble_eq_true rfl) ?_
  · simp only [List.mem_cons, List.not_mem_nil, or_false] at hv; rcases hv with rfl | rfl | rfl <;> rfl
  · have hq := w_Mod_comes_0 (g := g) (Q := RetV none (va_up h (A 0) (some (aI g 18060 (f_Mod_comes P b l c))))) (h := h) (kc := 0) (ks := 0) hst hP hw b l hb hl c ?_
    · rw [up_self hm] at hq; exact hq
    · exact ⟨rfl, rfl⟩

def f_Mod_comesBack_162 (P : Nat → Nat → Int32) (b : Nat) (l : Nat) (c : Nat → Int32) : Nat → Int32 :=
  upd c ((b + 80 + 10 * l) + 9) 0
set_option maxRecDepth 4000 in
theorem w_Mod_comesBack_162 {g : GG} {Q : QT} {h : Hp} {kc ks : Nat} (hst : (gl g).stackTraces = false) {A : Nat → Nat} {P : Nat → Nat → Int32} (hP : ∀ e, ModAt g A P (va_up h (A 0) e)) (hw : wfM P) (b : Nat) (l : Nat) (hb : b + 600 ≤ 18060) (hl : l < 12)  (c : Nat → Int32) (hk : Q (.inl none) (va_up h (A 0) (some (aI g 18060 (f_Mod_comesBack_162 P b l c))))) : PW g M_Mod_comesBack 3 kc ks Q 162 [.ref (A 100), .int (nI (b)), .int (nI (l)), .int (nI (b + 80 + 10 * l)), .retAddr 0] [] (va_up h (A 0) (some (aI g 18060 (c)))) := by
  have hz0 := hw.blk.2
  have hz1 := hw.lnk.2
  have hz2 := hw.dvs.2
  refine pw_aload_n e_Mod_comesBack_162 rfl ?_
  refine pw_getf e_Mod_comesBack_163 fl_Mod_9 (hP _).o rfl ?_
  refine pw_iload_n e_Mod_comesBack_166 rfl ?_
  refine pw_bipush (v := nI 9) e_Mod_comesBack_167 (by decide) ?_
  refine pw_iaddN e_Mod_comesBack_169 ?_
  refine pw_iconst (v := nI 0) e_Mod_comesBack_170 (by decide) ?_
  refine pw_iastU e_Mod_comesBack_171 (by omega) (by decide) ?_
  refine pw_vret e_Mod_comesBack_172 rfl ?_
  rw [f_Mod_comesBack_162] at hk
  exact hk
def f_Mod_comesBack_135 (P : Nat → Nat → Int32) (b : Nat) (l : Nat) (c : Nat → Int32) : Nat → Int32 :=
  if (c ((b + 8 * pN P 9 l) + 1)) = 3 then f_Mod_comesBack_162 P b l (upd c ((b + 80 + 10 * l) + 8) 0) else f_Mod_comesBack_162 P b l (upd c ((b + 80 + 10 * l) + 8) 1)
set_option maxRecDepth 4000 in
theorem w_Mod_comesBack_135 {g : GG} {Q : QT} {h : Hp} {kc ks : Nat} (hst : (gl g).stackTraces = false) {A : Nat → Nat} {P : Nat → Nat → Int32} (hP : ∀ e, ModAt g A P (va_up h (A 0) e)) (hw : wfM P) (b : Nat) (l : Nat) (hb : b + 600 ≤ 18060) (hl : l < 12)  (c : Nat → Int32) (hk : Q (.inl none) (va_up h (A 0) (some (aI g 18060 (f_Mod_comesBack_135 P b l c))))) : PW g M_Mod_comesBack 3 kc ks Q 135 [.ref (A 100), .int (nI (b)), .int (nI (l)), .int (nI (b + 80 + 10 * l)), .int (nI (b + 8 * pN P 9 l))] [] (va_up h (A 0) (some (aI g 18060 (c)))) := by
  have hbt := hw.to l
  have hz0 := hw.blk.2
  have hz1 := hw.lnk.2
  have hz2 := hw.dvs.2
  refine pw_aload_n e_Mod_comesBack_135 rfl ?_
  refine pw_getf e_Mod_comesBack_136 fl_Mod_9 (hP _).o rfl ?_
  refine pw_iload_n e_Mod_comesBack_139 rfl ?_
  refine pw_bipush (v := nI 8) e_Mod_comesBack_140 (by decide) ?_
  refine pw_iaddN e_Mod_comesBack_142 ?_
  refine pw_aload_n e_Mod_comesBack_143 rfl ?_
  refine pw_getf e_Mod_comesBack_144 fl_Mod_9 (hP _).o rfl ?_
  refine pw_iload e_Mod_comesBack_147 rfl ?_
  refine pw_iconst (v := nI 1) e_Mod_comesBack_149 (by decide) ?_
  refine pw_iaddN e_Mod_comesBack_150 ?_
  refine pw_ialdN e_Mod_comesBack_151 up_same (by omega) (by decide) ?_
  refine pw_iconst (v := nI 3) e_Mod_comesBack_152 (by decide) ?_
  refine pw_icmp_ne (tgt := 160) e_Mod_comesBack_153 (by decide) (fun (H1 : ¬ (c ((b + 8 * pN P 9 l) + 1)) = 3) => ?_) (fun (H1 : (c ((b + 8 * pN P 9 l) + 1)) = 3) => ?_)
  · refine pw_iconst (v := nI 1) e_Mod_comesBack_160 (by decide) ?_
    refine pw_iastU e_Mod_comesBack_161 (by omega) (by decide) ?_
    refine pw_fgt (ls' := [.ref (A 100), .int (nI (b)), .int (nI (l)), .int (nI (b + 80 + 10 * l)), .retAddr 0]) ⟨Or.inr rfl, Or.inr rfl, Or.inr rfl, Or.inr rfl, Or.inl rfl, trivial⟩ ?_
    refine w_Mod_comesBack_162 hst hP hw b l hb hl (upd c ((b + 80 + 10 * l) + 8) 1) ?_
    rw [f_Mod_comesBack_135, if_neg H1] at hk
    exact hk
  · refine pw_iconst (v := nI 0) e_Mod_comesBack_156 (by decide) ?_
    refine pw_goto (tgt := 161) e_Mod_comesBack_157 (by decide) ?_
    refine pw_iastU e_Mod_comesBack_161 (by omega) (by decide) ?_
    refine pw_fgt (ls' := [.ref (A 100), .int (nI (b)), .int (nI (l)), .int (nI (b + 80 + 10 * l)), .retAddr 0]) ⟨Or.inr rfl, Or.inr rfl, Or.inr rfl, Or.inr rfl, Or.inl rfl, trivial⟩ ?_
    refine w_Mod_comesBack_162 hst hP hw b l hb hl (upd c ((b + 80 + 10 * l) + 8) 0) ?_
    rw [f_Mod_comesBack_135, if_pos H1] at hk
    exact hk
def f_Mod_comesBack_116 (P : Nat → Nat → Int32) (b : Nat) (l : Nat) (c : Nat → Int32) : Nat → Int32 :=
  f_Mod_comesBack_135 P b l (upd c ((b + 80 + 10 * l) + 7) (c ((b + 8 * pN P 9 l) + 6)))
set_option maxRecDepth 4000 in
theorem w_Mod_comesBack_116 {g : GG} {Q : QT} {h : Hp} {kc ks : Nat} (hst : (gl g).stackTraces = false) {A : Nat → Nat} {P : Nat → Nat → Int32} (hP : ∀ e, ModAt g A P (va_up h (A 0) e)) (hw : wfM P) (b : Nat) (l : Nat) (hb : b + 600 ≤ 18060) (hl : l < 12)  (c : Nat → Int32) (hk : Q (.inl none) (va_up h (A 0) (some (aI g 18060 (f_Mod_comesBack_116 P b l c))))) : PW g M_Mod_comesBack 3 kc ks Q 116 [.ref (A 100), .int (nI (b)), .int (nI (l)), .int (nI (b + 80 + 10 * l)), .int (nI (b + 8 * pN P 9 l))] [] (va_up h (A 0) (some (aI g 18060 (c)))) := by
  have hbt := hw.to l
  have hz0 := hw.blk.2
  have hz1 := hw.lnk.2
  have hz2 := hw.dvs.2
  refine pw_aload_n e_Mod_comesBack_116 rfl ?_
  refine pw_getf e_Mod_comesBack_117 fl_Mod_9 (hP _).o rfl ?_
  refine pw_iload_n e_Mod_comesBack_120 rfl ?_
  refine pw_bipush (v := nI 7) e_Mod_comesBack_121 (by decide) ?_
  refine pw_iaddN e_Mod_comesBack_123 ?_
  refine pw_aload_n e_Mod_comesBack_124 rfl ?_
  refine pw_getf e_Mod_comesBack_125 fl_Mod_9 (hP _).o rfl ?_
  refine pw_iload e_Mod_comesBack_128 rfl ?_
  refine pw_bipush (v := nI 6) e_Mod_comesBack_130 (by decide) ?_
  refine pw_iaddN e_Mod_comesBack_132 ?_
  refine pw_ialdN e_Mod_comesBack_133 up_same (by omega) (by decide) ?_
  refine pw_iastU e_Mod_comesBack_134 (by omega) (by decide) ?_
  refine w_Mod_comesBack_135 hst hP hw b l hb hl (upd c ((b + 80 + 10 * l) + 7) (c ((b + 8 * pN P 9 l) + 6))) ?_
  rw [f_Mod_comesBack_116] at hk
  exact hk
def f_Mod_comesBack_90 (P : Nat → Nat → Int32) (b : Nat) (l : Nat) (c : Nat → Int32) : Nat → Int32 :=
  if (c ((b + 8 * pN P 9 l) + 1)) = 0 then f_Mod_comesBack_116 P b l (upd c ((b + 80 + 10 * l) + 6) 0) else f_Mod_comesBack_116 P b l (upd c ((b + 80 + 10 * l) + 6) 1)
set_option maxRecDepth 4000 in
theorem w_Mod_comesBack_90 {g : GG} {Q : QT} {h : Hp} {kc ks : Nat} (hst : (gl g).stackTraces = false) {A : Nat → Nat} {P : Nat → Nat → Int32} (hP : ∀ e, ModAt g A P (va_up h (A 0) e)) (hw : wfM P) (b : Nat) (l : Nat) (hb : b + 600 ≤ 18060) (hl : l < 12)  (c : Nat → Int32) (hk : Q (.inl none) (va_up h (A 0) (some (aI g 18060 (f_Mod_comesBack_90 P b l c))))) : PW g M_Mod_comesBack 3 kc ks Q 90 [.ref (A 100), .int (nI (b)), .int (nI (l)), .int (nI (b + 80 + 10 * l)), .int (nI (b + 8 * pN P 9 l))] [] (va_up h (A 0) (some (aI g 18060 (c)))) := by
  have hbt := hw.to l
  have hz0 := hw.blk.2
  have hz1 := hw.lnk.2
  have hz2 := hw.dvs.2
  refine pw_aload_n e_Mod_comesBack_90 rfl ?_
  refine pw_getf e_Mod_comesBack_91 fl_Mod_9 (hP _).o rfl ?_
  refine pw_iload_n e_Mod_comesBack_94 rfl ?_
  refine pw_bipush (v := nI 6) e_Mod_comesBack_95 (by decide) ?_
  refine pw_iaddN e_Mod_comesBack_97 ?_
  refine pw_aload_n e_Mod_comesBack_98 rfl ?_
  refine pw_getf e_Mod_comesBack_99 fl_Mod_9 (hP _).o rfl ?_
  refine pw_iload e_Mod_comesBack_102 rfl ?_
  refine pw_iconst (v := nI 1) e_Mod_comesBack_104 (by decide) ?_
  refine pw_iaddN e_Mod_comesBack_105 ?_
  refine pw_ialdN e_Mod_comesBack_106 up_same (by omega) (by decide) ?_
  refine pw_if_ne (tgt := 114) e_Mod_comesBack_107 (by decide) (fun (H1 : ¬ (c ((b + 8 * pN P 9 l) + 1)) = 0) => ?_) (fun (H1 : (c ((b + 8 * pN P 9 l) + 1)) = 0) => ?_)
  · refine pw_iconst (v := nI 1) e_Mod_comesBack_114 (by decide) ?_
    refine pw_iastU e_Mod_comesBack_115 (by omega) (by decide) ?_
    refine w_Mod_comesBack_116 hst hP hw b l hb hl (upd c ((b + 80 + 10 * l) + 6) 1) ?_
    rw [f_Mod_comesBack_90, if_neg H1] at hk
    exact hk
  · refine pw_iconst (v := nI 0) e_Mod_comesBack_110 (by decide) ?_
    refine pw_goto (tgt := 115) e_Mod_comesBack_111 (by decide) ?_
    refine pw_iastU e_Mod_comesBack_115 (by omega) (by decide) ?_
    refine w_Mod_comesBack_116 hst hP hw b l hb hl (upd c ((b + 80 + 10 * l) + 6) 0) ?_
    rw [f_Mod_comesBack_90, if_pos H1] at hk
    exact hk
def f_Mod_comesBack (P : Nat → Nat → Int32) (b : Nat) (l : Nat) (c : Nat → Int32) : Nat → Int32 :=
  if (f_Mod_doesCome P b l (pN P 8 l) c) = 0 then f_Mod_ages P ((b + 80 + 10 * l) + 9) ((b + 80 + 10 * l) + 6) c else if (pN P 3 (pN P 9 l)) = 1 then f_Mod_comesBack_90 P b l (upd c ((b + 80 + 10 * l) + 5) (c ((b + 8 * (pN P 9 l)) + 2))) else f_Mod_comesBack_90 P b l (upd c ((b + 80 + 10 * l) + 5) (c ((b + 8 * (pN P 9 l)) + 3)))
set_option maxRecDepth 4000 in
theorem w_Mod_comesBack_0 {g : GG} {Q : QT} {h : Hp} {kc ks : Nat} (hst : (gl g).stackTraces = false) {A : Nat → Nat} {P : Nat → Nat → Int32} (hP : ∀ e, ModAt g A P (va_up h (A 0) e)) (hw : wfM P) (b : Nat) (l : Nat) (hb : b + 600 ≤ 18060) (hl : l < 12)  (c : Nat → Int32) (hk : Q (.inl none) (va_up h (A 0) (some (aI g 18060 (f_Mod_comesBack P b l c))))) : PW g M_Mod_comesBack 3 kc ks Q 0 [.ref (A 100), .int (nI (b)), .int (nI (l)), .retAddr 0, .retAddr 0] [] (va_up h (A 0) (some (aI g 18060 (c)))) := by
  have hz0 := hw.blk.2
  have hz1 := hw.lnk.2
  have hz2 := hw.dvs.2
  refine pw_iload_n e_Mod_comesBack_0 rfl ?_
  refine pw_iload_n e_Mod_comesBack_1 rfl ?_
  refine pw_detS (As := [.int (nI (b)), .int (nI (l))]) e_Mod_comesBack_2 li_Mod_199 (q_linkAt hst b l) rfl (by decide) (Nat.le_of_ble_eq_true rfl) rfl ?_
  refine pw_istore_n (ls2 := [_, _, _, _, _]) e_Mod_comesBack_5 (by decide) rfl ?_
  refine pw_aload_n e_Mod_comesBack_6 rfl ?_
  refine pw_iload_n e_Mod_comesBack_7 rfl ?_
  refine pw_iload_n e_Mod_comesBack_8 rfl ?_
  refine pw_aload_n e_Mod_comesBack_9 rfl ?_
  refine pw_getf e_Mod_comesBack_10 fl_Mod_34 (hP _).o rfl ?_
  refine pw_iload_n e_Mod_comesBack_13 rfl ?_
  have hb2 := hw.frm l
  refine pw_ialdC e_Mod_comesBack_14 (hP _).a8 (by omega) (by decide) hb2.1 ?_
  replace hb2 := hb2.2
  refine pw_detV (As := [.int (nI (b)), .int (nI (l)), .int (nI (pN P 8 l))]) e_Mod_comesBack_15 li_Mod_209 rfl (hP _).o (q_Mod_doesCome hst (fun e => by rw [up_up]; exact hP e) hw b l (pN P 8 l) (by omega) (by omega) (by omega) c up_same) rfl (by decide) (Nat.le_of_ble_eq_true rfl) rfl ?_
  refine pw_if_ne (tgt := 34) e_Mod_comesBack_18 (by decide) (fun (H3 : ¬ (f_Mod_doesCome P b l (pN P 8 l) c) = 0) => ?_) (fun (H3 : (f_Mod_doesCome P b l (pN P 8 l) c) = 0) => ?_)
  · refine pw_iload_n e_Mod_comesBack_34 rfl ?_
    refine pw_aload_n e_Mod_comesBack_35 rfl ?_
    refine pw_getf e_Mod_comesBack_36 fl_Mod_37 (hP _).o rfl ?_
    refine pw_iload_n e_Mod_comesBack_39 rfl ?_
    have hb4 := hw.to l
    refine pw_ialdC e_Mod_comesBack_40 (hP _).a9 (by omega) (by decide) hb4.1 ?_
    replace hb4 := hb4.2
    refine pw_detS (As := [.int (nI (b)), .int (nI (pN P 9 l))]) e_Mod_comesBack_41 li_Mod_193 (q_at hst b (pN P 9 l)) rfl (by decide) (Nat.le_of_ble_eq_true rfl) rfl ?_
    refine pw_istore (ls2 := [_, _, _, _, _]) e_Mod_comesBack_44 (by decide) rfl ?_
    refine pw_aload_n e_Mod_comesBack_46 rfl ?_
    refine pw_getf e_Mod_comesBack_47 fl_Mod_9 (hP _).o rfl ?_
    refine pw_iload_n e_Mod_comesBack_50 rfl ?_
    refine pw_iconst (v := nI 5) e_Mod_comesBack_51 (by decide) ?_
    refine pw_iaddN e_Mod_comesBack_52 ?_
    refine pw_aload_n e_Mod_comesBack_53 rfl ?_
    refine pw_getf e_Mod_comesBack_54 fl_Mod_19 (hP _).o rfl ?_
    refine pw_aload_n e_Mod_comesBack_57 rfl ?_
    refine pw_getf e_Mod_comesBack_58 fl_Mod_37 (hP _).o rfl ?_
    refine pw_iload_n e_Mod_comesBack_61 rfl ?_
    have hb5 := hw.to l
    refine pw_ialdC e_Mod_comesBack_62 (hP _).a9 (by omega) (by decide) hb5.1 ?_
    replace hb5 := hb5.2
    have hb6 := hw.kind (pN P 9 l)
    refine pw_ialdC e_Mod_comesBack_63 (hP _).a3 (by omega) (by decide) hb6.1 ?_
    replace hb6 := hb6.2
    refine pw_iconst (v := nI 1) e_Mod_comesBack_64 (by decide) ?_
    refine pw_icmp_neN (tgt := 80) e_Mod_comesBack_65 (by decide) (by omega) (by omega) (fun (H7 : ¬ (pN P 3 (pN P 9 l)) = 1) => ?_) (fun (H7 : (pN P 3 (pN P 9 l)) = 1) => ?_)
    · refine pw_aload_n e_Mod_comesBack_80 rfl ?_
      refine pw_getf e_Mod_comesBack_81 fl_Mod_9 (hP _).o rfl ?_
      refine pw_iload e_Mod_comesBack_84 rfl ?_
      refine pw_iconst (v := nI 3) e_Mod_comesBack_86 (by decide) ?_
      refine pw_iaddN e_Mod_comesBack_87 ?_
      refine pw_ialdN e_Mod_comesBack_88 up_same (by omega) (by decide) ?_
      refine pw_iastU e_Mod_comesBack_89 (by omega) (by decide) ?_
      refine w_Mod_comesBack_90 hst hP hw b l hb hl (upd c ((b + 80 + 10 * l) + 5) (c ((b + 8 * (pN P 9 l)) + 3))) ?_
      rw [f_Mod_comesBack, if_neg H3, if_neg H7] at hk
      exact hk
    · refine pw_aload_n e_Mod_comesBack_68 rfl ?_
      refine pw_getf e_Mod_comesBack_69 fl_Mod_9 (hP _).o rfl ?_
      refine pw_iload e_Mod_comesBack_72 rfl ?_
      refine pw_iconst (v := nI 2) e_Mod_comesBack_74 (by decide) ?_
      refine pw_iaddN e_Mod_comesBack_75 ?_
      refine pw_ialdN e_Mod_comesBack_76 up_same (by omega) (by decide) ?_
      refine pw_goto (tgt := 89) e_Mod_comesBack_77 (by decide) ?_
      refine pw_iastU e_Mod_comesBack_89 (by omega) (by decide) ?_
      refine w_Mod_comesBack_90 hst hP hw b l hb hl (upd c ((b + 80 + 10 * l) + 5) (c ((b + 8 * (pN P 9 l)) + 2))) ?_
      rw [f_Mod_comesBack, if_neg H3, if_pos H7] at hk
      exact hk
  · refine pw_aload_n e_Mod_comesBack_21 rfl ?_
    refine pw_iload_n e_Mod_comesBack_22 rfl ?_
    refine pw_bipush (v := nI 9) e_Mod_comesBack_23 (by decide) ?_
    refine pw_iaddN e_Mod_comesBack_25 ?_
    refine pw_iload_n e_Mod_comesBack_26 rfl ?_
    refine pw_bipush (v := nI 6) e_Mod_comesBack_27 (by decide) ?_
    refine pw_iaddN e_Mod_comesBack_29 ?_
    refine pw_detV (As := [.int (nI ((b + 80 + 10 * l) + 9)), .int (nI ((b + 80 + 10 * l) + 6))]) e_Mod_comesBack_30 li_Mod_213 rfl (hP _).o (q_Mod_ages hst (fun e => by rw [up_up]; exact hP e) hw ((b + 80 + 10 * l) + 9) ((b + 80 + 10 * l) + 6) (by omega) (by omega) c up_same) rfl (by decide) (Nat.le_of_ble_eq_true rfl) rfl ?_
    rw [up_up]
    refine pw_vret e_Mod_comesBack_33 rfl ?_
    rw [f_Mod_comesBack, if_pos H3] at hk
    exact hk
theorem q_Mod_comesBack {g : GG} {h : Hp} (hst : (gl g).stackTraces = false) {A : Nat → Nat} {P : Nat → Nat → Int32} (hP : ∀ e, ModAt g A P (va_up h (A 0) e)) (hw : wfM P) (b : Nat) (l : Nat) (hb : b + 600 ≤ 18060) (hl : l < 12)  (c : Nat → Int32) (hm : h (A 0) = some (aI g 18060 c)) : PM g M_Mod_comesBack 3 0 0 [.ref (A 100), .int (nI (b)), .int (nI (l))] h (RetV none (va_up h (A 0) (some (aI g 18060 (f_Mod_comesBack P b l c))))) := by
  refine PM.of hst (by decide) rfl (fun v hv => ?_) (Nat.le_of_ble_eq_true rfl) ?_
  · simp only [List.mem_cons, List.not_mem_nil, or_false] at hv; rcases hv with rfl | rfl | rfl <;> rfl
  · have hq := w_Mod_comesBack_0 (g := g) (Q := RetV none (va_up h (A 0) (some (aI g 18060 (f_Mod_comesBack P b l c))))) (h := h) (kc := 0) (ks := 0) hst hP hw b l hb hl c ?_
    · rw [up_self hm] at hq; exact hq
    · exact ⟨rfl, rfl⟩

def f_Mod_isGood (P : Nat → Nat → Int32) (b : Nat) (k : Nat) (w : Nat) (c : Nat → Int32) : Int32 :=
  if (f_Mod_linkTo P k w) = ((-1)) then 0 else if (c ((b + 70 + 10 * lkP P k w) + 1)) = 1 then 1 else 0
set_option maxRecDepth 4000 in
theorem w_Mod_isGood_0 {g : GG} {Q : QT} {h : Hp} {kc ks : Nat} (hst : (gl g).stackTraces = false) {A : Nat → Nat} {P : Nat → Nat → Int32} (hP : ∀ e, ModAt g A P (va_up h (A 0) e)) (hw : wfM P) (b : Nat) (k : Nat) (w : Nat) (hb : b + 600 ≤ 18060)  (c : Nat → Int32) (hk : Q (.inl (some (.int (f_Mod_isGood P b k w c)))) (va_up h (A 0) (some (aI g 18060 (c))))) : PW g M_Mod_isGood 1 kc ks Q 0 [.ref (A 100), .int (nI (b)), .int (f_Mod_linkTo P k w)] [] (va_up h (A 0) (some (aI g 18060 (c)))) := by
  have hz0 := hw.blk.2
  have hz1 := hw.lnk.2
  have hz2 := hw.dvs.2
  refine pw_iload_n e_Mod_isGood_0 rfl ?_
  refine pw_iconst (v := (-1)) e_Mod_isGood_1 (by decide) ?_
  refine pw_icmp_eq (tgt := 25) e_Mod_isGood_2 (by decide) (fun (H1 : (f_Mod_linkTo P k w) = ((-1))) => ?_) (fun (H1 : ¬ (f_Mod_linkTo P k w) = ((-1))) => ?_)
  · refine pw_iconst (v := nI 0) e_Mod_isGood_25 (by decide) ?_
    refine pw_iret e_Mod_isGood_26 rfl (by decide) ?_
    rw [f_Mod_isGood, if_pos H1] at hk
    exact hk
  · refine pw_aload_n e_Mod_isGood_5 rfl ?_
    refine pw_getf e_Mod_isGood_6 fl_Mod_9 (hP _).o rfl ?_
    refine pw_iload_n e_Mod_isGood_9 rfl ?_
    refine pw_iload_n e_Mod_isGood_10 rfl ?_
    have hb2 := (lk_of hw k w).2
    refine pw_detS (As := [.int (nI (b)), .int (f_Mod_linkTo P k w)]) e_Mod_isGood_11 li_Mod_199 (q_lkA hst hw b k w) rfl (by decide) (Nat.le_of_ble_eq_true rfl) rfl ?_
    refine pw_iconst (v := nI 1) e_Mod_isGood_14 (by decide) ?_
    refine pw_iaddN e_Mod_isGood_15 ?_
    refine pw_ialdN e_Mod_isGood_16 up_same (by omega) (by decide) ?_
    refine pw_iconst (v := nI 1) e_Mod_isGood_17 (by decide) ?_
    refine pw_icmp_ne (tgt := 25) e_Mod_isGood_18 (by decide) (fun (H3 : ¬ (c ((b + 70 + 10 * lkP P k w) + 1)) = 1) => ?_) (fun (H3 : (c ((b + 70 + 10 * lkP P k w) + 1)) = 1) => ?_)
    · refine pw_iconst (v := nI 0) e_Mod_isGood_25 (by decide) ?_
      refine pw_iret e_Mod_isGood_26 rfl (by decide) ?_
      rw [f_Mod_isGood, if_neg H1, if_neg H3] at hk
      exact hk
    · refine pw_iconst (v := nI 1) e_Mod_isGood_21 (by decide) ?_
      refine pw_goto (tgt := 26) e_Mod_isGood_22 (by decide) ?_
      refine pw_iret e_Mod_isGood_26 rfl (by decide) ?_
      rw [f_Mod_isGood, if_neg H1, if_pos H3] at hk
      exact hk
theorem q_Mod_isGood {g : GG} {h : Hp} (hst : (gl g).stackTraces = false) {A : Nat → Nat} {P : Nat → Nat → Int32} (hP : ∀ e, ModAt g A P (va_up h (A 0) e)) (hw : wfM P) (b : Nat) (k : Nat) (w : Nat) (hb : b + 600 ≤ 18060)  (c : Nat → Int32) (hm : h (A 0) = some (aI g 18060 c)) : PM g M_Mod_isGood 1 0 0 [.ref (A 100), .int (nI (b)), .int (f_Mod_linkTo P k w)] h (RetV (some (.int (f_Mod_isGood P b k w c))) h) := by
  refine PM.of hst (by decide) rfl (fun v hv => ?_) (Nat.le_of_ble_eq_true rfl) ?_
  · simp only [List.mem_cons, List.not_mem_nil, or_false] at hv; rcases hv with rfl | rfl | rfl <;> rfl
  · have hq := w_Mod_isGood_0 (g := g) (Q := RetV (some (.int (f_Mod_isGood P b k w c))) h) (h := h) (kc := 0) (ks := 0) hst hP hw b k w hb c ?_
    · rw [up_self hm] at hq; exact hq
    · exact ⟨rfl, up_self hm⟩

def f_Mod_fallsTo (P : Nat → Nat → Int32) (b : Nat) (k : Nat) (x : Int32) (c : Nat → Int32) : Int32 × (Nat → Int32) :=
  if (pN P 3 k) = 1 then if ((P 7) k) = 1 then (x, upd c ((b + 8 * k) + 0) x) else (x, c) else (x, c)
set_option maxRecDepth 4000 in
theorem w_Mod_fallsTo_0 {g : GG} {Q : QT} {h : Hp} {kc ks : Nat} (hst : (gl g).stackTraces = false) {A : Nat → Nat} {P : Nat → Nat → Int32} (hP : ∀ e, ModAt g A P (va_up h (A 0) e)) (hw : wfM P) (b : Nat) (k : Nat) (x : Int32) (hb : b + 600 ≤ 18060) (hkk : k < 10)  (c : Nat → Int32) (hk : Q (.inl (some (.int (f_Mod_fallsTo P b k x c).1))) (va_up h (A 0) (some (aI g 18060 ((f_Mod_fallsTo P b k x c).2))))) : PW g M_Mod_fallsTo 1 kc ks Q 0 [.ref (A 100), .int (nI (b)), .int (nI (k)), .int (x)] [] (va_up h (A 0) (some (aI g 18060 (c)))) := by
  have hz0 := hw.blk.2
  have hz1 := hw.lnk.2
  have hz2 := hw.dvs.2
  refine pw_aload_n e_Mod_fallsTo_0 rfl ?_
  refine pw_getf e_Mod_fallsTo_1 fl_Mod_19 (hP _).o rfl ?_
  refine pw_iload_n e_Mod_fallsTo_4 rfl ?_
  have hb1 := hw.kind k
  refine pw_ialdC e_Mod_fallsTo_5 (hP _).a3 (by omega) (by decide) hb1.1 ?_
  replace hb1 := hb1.2
  refine pw_iconst (v := nI 1) e_Mod_fallsTo_6 (by decide) ?_
  refine pw_icmp_neN (tgt := 33) e_Mod_fallsTo_7 (by decide) (by omega) (by omega) (fun (H2 : ¬ (pN P 3 k) = 1) => ?_) (fun (H2 : (pN P 3 k) = 1) => ?_)
  · refine pw_iload_n e_Mod_fallsTo_33 rfl ?_
    refine pw_iret e_Mod_fallsTo_34 rfl rfl ?_
    rw [f_Mod_fallsTo, if_neg H2] at hk
    exact hk
  · refine pw_aload_n e_Mod_fallsTo_10 rfl ?_
    refine pw_getf e_Mod_fallsTo_11 fl_Mod_31 (hP _).o rfl ?_
    refine pw_iload_n e_Mod_fallsTo_14 rfl ?_
    refine pw_ialdN e_Mod_fallsTo_15 (hP _).a7 (by omega) (by decide) ?_
    refine pw_iconst (v := nI 1) e_Mod_fallsTo_16 (by decide) ?_
    refine pw_icmp_ne (tgt := 33) e_Mod_fallsTo_17 (by decide) (fun (H3 : ¬ ((P 7) k) = 1) => ?_) (fun (H3 : ((P 7) k) = 1) => ?_)
    · refine pw_iload_n e_Mod_fallsTo_33 rfl ?_
      refine pw_iret e_Mod_fallsTo_34 rfl rfl ?_
      rw [f_Mod_fallsTo, if_pos H2, if_neg H3] at hk
      exact hk
    · refine pw_aload_n e_Mod_fallsTo_20 rfl ?_
      refine pw_getf e_Mod_fallsTo_21 fl_Mod_9 (hP _).o rfl ?_
      refine pw_iload_n e_Mod_fallsTo_24 rfl ?_
      refine pw_iload_n e_Mod_fallsTo_25 rfl ?_
      refine pw_detS (As := [.int (nI (b)), .int (nI (k))]) e_Mod_fallsTo_26 li_Mod_193 (q_at hst b k) rfl (by decide) (Nat.le_of_ble_eq_true rfl) rfl ?_
      refine pw_iconst (v := nI 0) e_Mod_fallsTo_29 (by decide) ?_
      refine pw_iaddN e_Mod_fallsTo_30 ?_
      refine pw_iload_n e_Mod_fallsTo_31 rfl ?_
      refine pw_iastU e_Mod_fallsTo_32 (by omega) (by decide) ?_
      refine pw_iload_n e_Mod_fallsTo_33 rfl ?_
      refine pw_iret e_Mod_fallsTo_34 rfl rfl ?_
      rw [f_Mod_fallsTo, if_pos H2, if_pos H3] at hk
      exact hk
theorem q_Mod_fallsTo {g : GG} {h : Hp} (hst : (gl g).stackTraces = false) {A : Nat → Nat} {P : Nat → Nat → Int32} (hP : ∀ e, ModAt g A P (va_up h (A 0) e)) (hw : wfM P) (b : Nat) (k : Nat) (x : Int32) (hb : b + 600 ≤ 18060) (hkk : k < 10)  (c : Nat → Int32) (hm : h (A 0) = some (aI g 18060 c)) : PM g M_Mod_fallsTo 1 0 0 [.ref (A 100), .int (nI (b)), .int (nI (k)), .int (x)] h (RetV (some (.int (f_Mod_fallsTo P b k x c).1)) (va_up h (A 0) (some (aI g 18060 ((f_Mod_fallsTo P b k x c).2))))) := by
  refine PM.of hst (by decide) rfl (fun v hv => ?_) (Nat.le_of_ble_eq_true rfl) ?_
  · simp only [List.mem_cons, List.not_mem_nil, or_false] at hv; rcases hv with rfl | rfl | rfl | rfl <;> rfl
  · have hq := w_Mod_fallsTo_0 (g := g) (Q := RetV (some (.int (f_Mod_fallsTo P b k x c).1)) (va_up h (A 0) (some (aI g 18060 ((f_Mod_fallsTo P b k x c).2))))) (h := h) (kc := 0) (ks := 0) hst hP hw b k x hb hkk c ?_
    · rw [up_self hm] at hq; exact hq
    · exact ⟨rfl, rfl⟩

def f_Mod_actualOf_84 (P : Nat → Nat → Int32) (b : Nat) (k : Nat) (c : Nat → Int32) : Int32 × (Nat → Int32) :=
  if (f_Mod_isGood P b k 2 c) = 0 then if (pN P 3 k) = 1 then ((f_Mod_fallsTo P b k ((P 6) k) c).1, (f_Mod_fallsTo P b k ((P 6) k) c).2) else ((f_Mod_fallsTo P b k 2 c).1, (f_Mod_fallsTo P b k 2 c).2) else if (c ((b + 8 * k) + 1)) = 3 then (3, c) else if (c ((b + 70 + 10 * lkP P k 2) + 3)) = 1 then (3, c) else (2, c)
set_option maxRecDepth 4000 in
theorem w_Mod_actualOf_84 {g : GG} {Q : QT} {h : Hp} {kc ks : Nat} (hst : (gl g).stackTraces = false) {A : Nat → Nat} {P : Nat → Nat → Int32} (hP : ∀ e, ModAt g A P (va_up h (A 0) e)) (hw : wfM P) (b : Nat) (k : Nat) (hb : b + 600 ≤ 18060) (hkk : k < 10)  (c : Nat → Int32) (hk : Q (.inl (some (.int (f_Mod_actualOf_84 P b k c).1))) (va_up h (A 0) (some (aI g 18060 ((f_Mod_actualOf_84 P b k c).2))))) : PW g M_Mod_actualOf 2 kc ks Q 84 [.ref (A 100), .int (nI (b)), .int (nI (k)), .int (nI (b + 8 * k)), .retAddr 0, .retAddr 0] [] (va_up h (A 0) (some (aI g 18060 (c)))) := by
  have hz0 := hw.blk.2
  have hz1 := hw.lnk.2
  have hz2 := hw.dvs.2
  refine pw_aload_n e_Mod_actualOf_84 rfl ?_
  refine pw_iload_n e_Mod_actualOf_85 rfl ?_
  refine pw_iconst (v := nI 2) e_Mod_actualOf_86 (by decide) ?_
  refine pw_detV (As := [.int (nI (k)), .int (nI (2))]) e_Mod_actualOf_87 li_Mod_196 rfl (hP _).o (q_Mod_linkTo hst (hP _) hw k 2 (by omega) (by omega)) rfl (by decide) (Nat.le_of_ble_eq_true rfl) rfl ?_
  refine pw_istore (ls2 := [_, _, _, _, _, _]) e_Mod_actualOf_90 (by decide) rfl ?_
  refine pw_aload_n e_Mod_actualOf_92 rfl ?_
  refine pw_iload_n e_Mod_actualOf_93 rfl ?_
  refine pw_iload e_Mod_actualOf_94 rfl ?_
  refine pw_detV (As := [.int (nI (b)), .int (f_Mod_linkTo P k 2)]) e_Mod_actualOf_96 li_Mod_217 rfl (hP _).o (q_Mod_isGood hst (fun e => by rw [up_up]; exact hP e) hw b k 2 (by omega) c up_same) rfl (by decide) (Nat.le_of_ble_eq_true rfl) rfl ?_
  refine pw_if_ne (tgt := 129) e_Mod_actualOf_99 (by decide) (fun (H1 : ¬ (f_Mod_isGood P b k 2 c) = 0) => ?_) (fun (H1 : (f_Mod_isGood P b k 2 c) = 0) => ?_)
  · refine pw_aload_n e_Mod_actualOf_129 rfl ?_
    refine pw_getf e_Mod_actualOf_130 fl_Mod_9 (hP _).o rfl ?_
    refine pw_iload_n e_Mod_actualOf_133 rfl ?_
    refine pw_iconst (v := nI 1) e_Mod_actualOf_134 (by decide) ?_
    refine pw_iaddN e_Mod_actualOf_135 ?_
    refine pw_ialdN e_Mod_actualOf_136 up_same (by omega) (by decide) ?_
    refine pw_iconst (v := nI 3) e_Mod_actualOf_137 (by decide) ?_
    refine pw_icmp_eq (tgt := 158) e_Mod_actualOf_138 (by decide) (fun (H2 : (c ((b + 8 * k) + 1)) = 3) => ?_) (fun (H2 : ¬ (c ((b + 8 * k) + 1)) = 3) => ?_)
    · refine pw_iconst (v := nI 3) e_Mod_actualOf_158 (by decide) ?_
      refine pw_goto (tgt := 163) e_Mod_actualOf_159 (by decide) ?_
      refine pw_iret e_Mod_actualOf_163 rfl rfl ?_
      rw [f_Mod_actualOf_84, if_neg H1, if_pos H2] at hk
      exact hk
    · refine pw_aload_n e_Mod_actualOf_141 rfl ?_
      refine pw_getf e_Mod_actualOf_142 fl_Mod_9 (hP _).o rfl ?_
      refine pw_iload_n e_Mod_actualOf_145 rfl ?_
      refine pw_iload e_Mod_actualOf_146 rfl ?_
      have hb3 := (lk_of hw k 2).2
      refine pw_detS (As := [.int (nI (b)), .int (f_Mod_linkTo P k 2)]) e_Mod_actualOf_148 li_Mod_199 (q_lkA hst hw b k 2) rfl (by decide) (Nat.le_of_ble_eq_true rfl) rfl ?_
      refine pw_iconst (v := nI 3) e_Mod_actualOf_151 (by decide) ?_
      refine pw_iaddN e_Mod_actualOf_152 ?_
      refine pw_ialdN e_Mod_actualOf_153 up_same (by omega) (by decide) ?_
      refine pw_iconst (v := nI 1) e_Mod_actualOf_154 (by decide) ?_
      refine pw_icmp_ne (tgt := 162) e_Mod_actualOf_155 (by decide) (fun (H4 : ¬ (c ((b + 70 + 10 * lkP P k 2) + 3)) = 1) => ?_) (fun (H4 : (c ((b + 70 + 10 * lkP P k 2) + 3)) = 1) => ?_)
      · refine pw_iconst (v := nI 2) e_Mod_actualOf_162 (by decide) ?_
        refine pw_iret e_Mod_actualOf_163 rfl rfl ?_
        rw [f_Mod_actualOf_84, if_neg H1, if_neg H2, if_neg H4] at hk
        exact hk
      · refine pw_iconst (v := nI 3) e_Mod_actualOf_158 (by decide) ?_
        refine pw_goto (tgt := 163) e_Mod_actualOf_159 (by decide) ?_
        refine pw_iret e_Mod_actualOf_163 rfl rfl ?_
        rw [f_Mod_actualOf_84, if_neg H1, if_neg H2, if_pos H4] at hk
        exact hk
  · refine pw_aload_n e_Mod_actualOf_102 rfl ?_
    refine pw_iload_n e_Mod_actualOf_103 rfl ?_
    refine pw_iload_n e_Mod_actualOf_104 rfl ?_
    refine pw_aload_n e_Mod_actualOf_105 rfl ?_
    refine pw_getf e_Mod_actualOf_106 fl_Mod_19 (hP _).o rfl ?_
    refine pw_iload_n e_Mod_actualOf_109 rfl ?_
    have hb5 := hw.kind k
    refine pw_ialdC e_Mod_actualOf_110 (hP _).a3 (by omega) (by decide) hb5.1 ?_
    replace hb5 := hb5.2
    refine pw_iconst (v := nI 1) e_Mod_actualOf_111 (by decide) ?_
    refine pw_icmp_neN (tgt := 124) e_Mod_actualOf_112 (by decide) (by omega) (by omega) (fun (H6 : ¬ (pN P 3 k) = 1) => ?_) (fun (H6 : (pN P 3 k) = 1) => ?_)
    · refine pw_iconst (v := nI 2) e_Mod_actualOf_124 (by decide) ?_
      refine pw_detV (As := [.int (nI (b)), .int (nI (k)), .int (nI (2))]) e_Mod_actualOf_125 li_Mod_220 rfl (hP _).o (q_Mod_fallsTo hst (fun e => by rw [up_up]; exact hP e) hw b k 2 (by omega) (by omega) c up_same) rfl (by decide) (Nat.le_of_ble_eq_true rfl) rfl ?_
      rw [up_up]
      refine pw_iret e_Mod_actualOf_128 rfl rfl ?_
      rw [f_Mod_actualOf_84, if_pos H1, if_neg H6] at hk
      exact hk
    · refine pw_aload_n e_Mod_actualOf_115 rfl ?_
      refine pw_getf e_Mod_actualOf_116 fl_Mod_28 (hP _).o rfl ?_
      refine pw_iload_n e_Mod_actualOf_119 rfl ?_
      refine pw_ialdN e_Mod_actualOf_120 (hP _).a6 (by omega) (by decide) ?_
      refine pw_goto (tgt := 125) e_Mod_actualOf_121 (by decide) ?_
      refine pw_detV (As := [.int (nI (b)), .int (nI (k)), .int ((P 6) k)]) e_Mod_actualOf_125 li_Mod_220 rfl (hP _).o (q_Mod_fallsTo hst (fun e => by rw [up_up]; exact hP e) hw b k ((P 6) k) (by omega) (by omega) c up_same) rfl (by decide) (Nat.le_of_ble_eq_true rfl) rfl ?_
      rw [up_up]
      refine pw_iret e_Mod_actualOf_128 rfl rfl ?_
      rw [f_Mod_actualOf_84, if_pos H1, if_pos H6] at hk
      exact hk
def f_Mod_actualOf_76 (P : Nat → Nat → Int32) (b : Nat) (k : Nat) (c : Nat → Int32) (tg : Int32) : Int32 × (Nat → Int32) :=
  if tg = 2 then (2, c) else f_Mod_actualOf_84 P b k c
set_option maxRecDepth 4000 in
theorem w_Mod_actualOf_76 {g : GG} {Q : QT} {h : Hp} {kc ks : Nat} (hst : (gl g).stackTraces = false) {A : Nat → Nat} {P : Nat → Nat → Int32} (hP : ∀ e, ModAt g A P (va_up h (A 0) e)) (hw : wfM P) (b : Nat) (k : Nat) (hb : b + 600 ≤ 18060) (hkk : k < 10)  (c : Nat → Int32) (tg : Int32) (hk : Q (.inl (some (.int (f_Mod_actualOf_76 P b k c tg).1))) (va_up h (A 0) (some (aI g 18060 ((f_Mod_actualOf_76 P b k c tg).2))))) : PW g M_Mod_actualOf 2 kc ks Q 76 [.ref (A 100), .int (nI (b)), .int (nI (k)), .int (nI (b + 8 * k)), .int (tg), .retAddr 0] [] (va_up h (A 0) (some (aI g 18060 (c)))) := by
  have hz0 := hw.blk.2
  have hz1 := hw.lnk.2
  have hz2 := hw.dvs.2
  refine pw_iload e_Mod_actualOf_76 rfl ?_
  refine pw_iconst (v := nI 2) e_Mod_actualOf_78 (by decide) ?_
  refine pw_icmp_ne (tgt := 84) e_Mod_actualOf_79 (by decide) (fun (H1 : ¬ tg = 2) => ?_) (fun (H1 : tg = 2) => ?_)
  · refine pw_fgt (ls' := [.ref (A 100), .int (nI (b)), .int (nI (k)), .int (nI (b + 8 * k)), .retAddr 0, .retAddr 0]) ⟨Or.inr rfl, Or.inr rfl, Or.inr rfl, Or.inr rfl, Or.inl rfl, Or.inr rfl, trivial⟩ ?_
    refine w_Mod_actualOf_84 hst hP hw b k hb hkk c ?_
    rw [f_Mod_actualOf_76, if_neg H1] at hk
    exact hk
  · refine pw_iconst (v := nI 2) e_Mod_actualOf_82 (by decide) ?_
    refine pw_iret e_Mod_actualOf_83 rfl rfl ?_
    rw [f_Mod_actualOf_76, if_pos H1] at hk
    exact hk
def f_Mod_actualOf_44 (P : Nat → Nat → Int32) (b : Nat) (k : Nat) (c : Nat → Int32) (tg : Int32) : Int32 × (Nat → Int32) :=
  if (pN P 3 k) = 1 then if (f_Mod_isGood P b k 0 c) = 0 then ((f_Mod_fallsTo P b k 1 c).1, (f_Mod_fallsTo P b k 1 c).2) else f_Mod_actualOf_76 P b k c tg else f_Mod_actualOf_76 P b k c tg
set_option maxRecDepth 4000 in
theorem w_Mod_actualOf_44 {g : GG} {Q : QT} {h : Hp} {kc ks : Nat} (hst : (gl g).stackTraces = false) {A : Nat → Nat} {P : Nat → Nat → Int32} (hP : ∀ e, ModAt g A P (va_up h (A 0) e)) (hw : wfM P) (b : Nat) (k : Nat) (hb : b + 600 ≤ 18060) (hkk : k < 10)  (c : Nat → Int32) (tg : Int32) (hk : Q (.inl (some (.int (f_Mod_actualOf_44 P b k c tg).1))) (va_up h (A 0) (some (aI g 18060 ((f_Mod_actualOf_44 P b k c tg).2))))) : PW g M_Mod_actualOf 2 kc ks Q 44 [.ref (A 100), .int (nI (b)), .int (nI (k)), .int (nI (b + 8 * k)), .int (tg), .retAddr 0] [] (va_up h (A 0) (some (aI g 18060 (c)))) := by
  have hz0 := hw.blk.2
  have hz1 := hw.lnk.2
  have hz2 := hw.dvs.2
  refine pw_aload_n e_Mod_actualOf_44 rfl ?_
  refine pw_getf e_Mod_actualOf_45 fl_Mod_19 (hP _).o rfl ?_
  refine pw_iload_n e_Mod_actualOf_48 rfl ?_
  have hb1 := hw.kind k
  refine pw_ialdC e_Mod_actualOf_49 (hP _).a3 (by omega) (by decide) hb1.1 ?_
  replace hb1 := hb1.2
  refine pw_iconst (v := nI 1) e_Mod_actualOf_50 (by decide) ?_
  refine pw_icmp_neN (tgt := 76) e_Mod_actualOf_51 (by decide) (by omega) (by omega) (fun (H2 : ¬ (pN P 3 k) = 1) => ?_) (fun (H2 : (pN P 3 k) = 1) => ?_)
  · refine w_Mod_actualOf_76 hst hP hw b k hb hkk c tg ?_
    rw [f_Mod_actualOf_44, if_neg H2] at hk
    exact hk
  · refine pw_aload_n e_Mod_actualOf_54 rfl ?_
    refine pw_iload_n e_Mod_actualOf_55 rfl ?_
    refine pw_aload_n e_Mod_actualOf_56 rfl ?_
    refine pw_iload_n e_Mod_actualOf_57 rfl ?_
    refine pw_iconst (v := nI 0) e_Mod_actualOf_58 (by decide) ?_
    refine pw_detV (As := [.int (nI (k)), .int (nI (0))]) e_Mod_actualOf_59 li_Mod_196 rfl (hP _).o (q_Mod_linkTo hst (hP _) hw k 0 (by omega) (by omega)) rfl (by decide) (Nat.le_of_ble_eq_true rfl) rfl ?_
    refine pw_detV (As := [.int (nI (b)), .int (f_Mod_linkTo P k 0)]) e_Mod_actualOf_62 li_Mod_217 rfl (hP _).o (q_Mod_isGood hst (fun e => by rw [up_up]; exact hP e) hw b k 0 (by omega) c up_same) rfl (by decide) (Nat.le_of_ble_eq_true rfl) rfl ?_
    refine pw_if_ne (tgt := 76) e_Mod_actualOf_65 (by decide) (fun (H3 : ¬ (f_Mod_isGood P b k 0 c) = 0) => ?_) (fun (H3 : (f_Mod_isGood P b k 0 c) = 0) => ?_)
    · refine w_Mod_actualOf_76 hst hP hw b k hb hkk c tg ?_
      rw [f_Mod_actualOf_44, if_pos H2, if_neg H3] at hk
      exact hk
    · refine pw_aload_n e_Mod_actualOf_68 rfl ?_
      refine pw_iload_n e_Mod_actualOf_69 rfl ?_
      refine pw_iload_n e_Mod_actualOf_70 rfl ?_
      refine pw_iconst (v := nI 1) e_Mod_actualOf_71 (by decide) ?_
      refine pw_detV (As := [.int (nI (b)), .int (nI (k)), .int (nI (1))]) e_Mod_actualOf_72 li_Mod_220 rfl (hP _).o (q_Mod_fallsTo hst (fun e => by rw [up_up]; exact hP e) hw b k 1 (by omega) (by omega) c up_same) rfl (by decide) (Nat.le_of_ble_eq_true rfl) rfl ?_
      rw [up_up]
      refine pw_iret e_Mod_actualOf_75 rfl rfl ?_
      rw [f_Mod_actualOf_44, if_pos H2, if_pos H3] at hk
      exact hk
def f_Mod_actualOf (P : Nat → Nat → Int32) (b : Nat) (k : Nat) (c : Nat → Int32) : Int32 × (Nat → Int32) :=
  if (c ((b + 8 * k) + 0)) < 2 then (c ((b + 8 * k) + 0), c) else if (pN P 3 k) = 0 then (c ((b + 8 * k) + 0), c) else if (pN P 3 k) = 3 then (c ((b + 8 * k) + 0), c) else f_Mod_actualOf_44 P b k c (c ((b + 8 * k) + 0))
set_option maxRecDepth 4000 in
theorem w_Mod_actualOf_0 {g : GG} {Q : QT} {h : Hp} {kc ks : Nat} (hst : (gl g).stackTraces = false) {A : Nat → Nat} {P : Nat → Nat → Int32} (hP : ∀ e, ModAt g A P (va_up h (A 0) e)) (hw : wfM P) (b : Nat) (k : Nat) (hb : b + 600 ≤ 18060) (hkk : k < 10)  (c : Nat → Int32) (hk : Q (.inl (some (.int (f_Mod_actualOf P b k c).1))) (va_up h (A 0) (some (aI g 18060 ((f_Mod_actualOf P b k c).2))))) : PW g M_Mod_actualOf 2 kc ks Q 0 [.ref (A 100), .int (nI (b)), .int (nI (k)), .retAddr 0, .retAddr 0, .retAddr 0] [] (va_up h (A 0) (some (aI g 18060 (c)))) := by
  have hz0 := hw.blk.2
  have hz1 := hw.lnk.2
  have hz2 := hw.dvs.2
  refine pw_iload_n e_Mod_actualOf_0 rfl ?_
  refine pw_iload_n e_Mod_actualOf_1 rfl ?_
  refine pw_detS (As := [.int (nI (b)), .int (nI (k))]) e_Mod_actualOf_2 li_Mod_193 (q_at hst b k) rfl (by decide) (Nat.le_of_ble_eq_true rfl) rfl ?_
  refine pw_istore_n (ls2 := [_, _, _, _, _, _]) e_Mod_actualOf_5 (by decide) rfl ?_
  refine pw_aload_n e_Mod_actualOf_6 rfl ?_
  refine pw_getf e_Mod_actualOf_7 fl_Mod_9 (hP _).o rfl ?_
  refine pw_iload_n e_Mod_actualOf_10 rfl ?_
  refine pw_iconst (v := nI 0) e_Mod_actualOf_11 (by decide) ?_
  refine pw_iaddN e_Mod_actualOf_12 ?_
  refine pw_ialdN e_Mod_actualOf_13 up_same (by omega) (by decide) ?_
  refine pw_istore (ls2 := [_, _, _, _, _, _]) e_Mod_actualOf_14 (by decide) rfl ?_
  refine pw_iload e_Mod_actualOf_16 rfl ?_
  refine pw_iconst (v := nI 2) e_Mod_actualOf_18 (by decide) ?_
  refine pw_icmp_lt (tgt := 41) e_Mod_actualOf_19 (by decide) (fun (H1 : (c ((b + 8 * k) + 0)) < 2) => ?_) (fun (H1 : ¬ (c ((b + 8 * k) + 0)) < 2) => ?_)
  · refine pw_iload e_Mod_actualOf_41 rfl ?_
    refine pw_iret e_Mod_actualOf_43 rfl rfl ?_
    rw [f_Mod_actualOf, if_pos H1] at hk
    exact hk
  · refine pw_aload_n e_Mod_actualOf_22 rfl ?_
    refine pw_getf e_Mod_actualOf_23 fl_Mod_19 (hP _).o rfl ?_
    refine pw_iload_n e_Mod_actualOf_26 rfl ?_
    have hb2 := hw.kind k
    refine pw_ialdC e_Mod_actualOf_27 (hP _).a3 (by omega) (by decide) hb2.1 ?_
    replace hb2 := hb2.2
    refine pw_if_eqN (tgt := 41) e_Mod_actualOf_28 (by decide) (by omega) (fun (H3 : (pN P 3 k) = 0) => ?_) (fun (H3 : ¬ (pN P 3 k) = 0) => ?_)
    · refine pw_iload e_Mod_actualOf_41 rfl ?_
      refine pw_iret e_Mod_actualOf_43 rfl rfl ?_
      rw [f_Mod_actualOf, if_neg H1, if_pos H3] at hk
      exact hk
    · refine pw_aload_n e_Mod_actualOf_31 rfl ?_
      refine pw_getf e_Mod_actualOf_32 fl_Mod_19 (hP _).o rfl ?_
      refine pw_iload_n e_Mod_actualOf_35 rfl ?_
      have hb4 := hw.kind k
      refine pw_ialdC e_Mod_actualOf_36 (hP _).a3 (by omega) (by decide) hb4.1 ?_
      replace hb4 := hb4.2
      refine pw_iconst (v := nI 3) e_Mod_actualOf_37 (by decide) ?_
      refine pw_icmp_neN (tgt := 44) e_Mod_actualOf_38 (by decide) (by omega) (by omega) (fun (H5 : ¬ (pN P 3 k) = 3) => ?_) (fun (H5 : (pN P 3 k) = 3) => ?_)
      · refine w_Mod_actualOf_44 hst hP hw b k hb hkk c (c ((b + 8 * k) + 0)) ?_
        rw [f_Mod_actualOf, if_neg H1, if_neg H3, if_neg H5] at hk
        exact hk
      · refine pw_iload e_Mod_actualOf_41 rfl ?_
        refine pw_iret e_Mod_actualOf_43 rfl rfl ?_
        rw [f_Mod_actualOf, if_neg H1, if_neg H3, if_pos H5] at hk
        exact hk
theorem q_Mod_actualOf {g : GG} {h : Hp} (hst : (gl g).stackTraces = false) {A : Nat → Nat} {P : Nat → Nat → Int32} (hP : ∀ e, ModAt g A P (va_up h (A 0) e)) (hw : wfM P) (b : Nat) (k : Nat) (hb : b + 600 ≤ 18060) (hkk : k < 10)  (c : Nat → Int32) (hm : h (A 0) = some (aI g 18060 c)) : PM g M_Mod_actualOf 2 0 0 [.ref (A 100), .int (nI (b)), .int (nI (k))] h (RetV (some (.int (f_Mod_actualOf P b k c).1)) (va_up h (A 0) (some (aI g 18060 ((f_Mod_actualOf P b k c).2))))) := by
  refine PM.of hst (by decide) rfl (fun v hv => ?_) (Nat.le_of_ble_eq_true rfl) ?_
  · simp only [List.mem_cons, List.not_mem_nil, or_false] at hv; rcases hv with rfl | rfl | rfl <;> rfl
  · have hq := w_Mod_actualOf_0 (g := g) (Q := RetV (some (.int (f_Mod_actualOf P b k c).1)) (va_up h (A 0) (some (aI g 18060 ((f_Mod_actualOf P b k c).2))))) (h := h) (kc := 0) (ks := 0) hst hP hw b k hb hkk c ?_
    · rw [up_self hm] at hq; exact hq
    · exact ⟨rfl, rfl⟩

def f_Mod_runsInput_51 (P : Nat → Nat → Int32) (b : Nat) (k : Nat) (c : Nat → Int32) (md : Int32) : Nat → Int32 :=
  if md = 2 then upd c ((b + 8 * k) + 5) (1 - (((c (b + 204)) >>> ((nI (pN P 4 k)) &&& 31)) &&& 1)) else upd c ((b + 8 * k) + 5) md
set_option maxRecDepth 4000 in
theorem w_Mod_runsInput_51 {g : GG} {Q : QT} {h : Hp} {kc ks : Nat} (hst : (gl g).stackTraces = false) {A : Nat → Nat} {P : Nat → Nat → Int32} (hP : ∀ e, ModAt g A P (va_up h (A 0) e)) (hw : wfM P) (b : Nat) (k : Nat) (hb : b + 600 ≤ 18060) (hkk : k < 10)  (c : Nat → Int32) (md : Int32) (hk : Q (.inl none) (va_up h (A 0) (some (aI g 18060 (f_Mod_runsInput_51 P b k c md))))) : PW g M_Mod_runsInput 1 kc ks Q 51 [.ref (A 100), .int (nI (b)), .int (nI (k)), .int (nI (b + 8 * k)), .int (md), .int (nI (pN P 4 k))] [] (va_up h (A 0) (some (aI g 18060 (c)))) := by
  have hb1 := (hw.one k).2
  have hz0 := hw.blk.2
  have hz1 := hw.lnk.2
  have hz2 := hw.dvs.2
  refine pw_aload_n e_Mod_runsInput_51 rfl ?_
  refine pw_getf e_Mod_runsInput_52 fl_Mod_9 (hP _).o rfl ?_
  refine pw_iload_n e_Mod_runsInput_55 rfl ?_
  refine pw_iconst (v := nI 5) e_Mod_runsInput_56 (by decide) ?_
  refine pw_iaddN e_Mod_runsInput_57 ?_
  refine pw_iload e_Mod_runsInput_58 rfl ?_
  refine pw_iconst (v := nI 2) e_Mod_runsInput_60 (by decide) ?_
  refine pw_icmp_ne (tgt := 84) e_Mod_runsInput_61 (by decide) (fun (H1 : ¬ md = 2) => ?_) (fun (H1 : md = 2) => ?_)
  · refine pw_iload e_Mod_runsInput_84 rfl ?_
    refine pw_iastU e_Mod_runsInput_86 (by omega) (by decide) ?_
    refine pw_vret e_Mod_runsInput_87 rfl ?_
    rw [f_Mod_runsInput_51, if_neg H1] at hk
    exact hk
  · refine pw_iconst (v := nI 1) e_Mod_runsInput_64 (by decide) ?_
    refine pw_aload_n e_Mod_runsInput_65 rfl ?_
    refine pw_getf e_Mod_runsInput_66 fl_Mod_9 (hP _).o rfl ?_
    refine pw_iload_n e_Mod_runsInput_69 rfl ?_
    refine pw_sipush (v := nI 204) e_Mod_runsInput_70 (by decide) ?_
    refine pw_iaddN e_Mod_runsInput_73 ?_
    refine pw_ialdN e_Mod_runsInput_74 up_same (by omega) (by decide) ?_
    refine pw_iload e_Mod_runsInput_75 rfl ?_
    refine pw_ishr e_Mod_runsInput_77 ?_
    refine pw_iconst (v := nI 1) e_Mod_runsInput_78 (by decide) ?_
    refine pw_iand e_Mod_runsInput_79 ?_
    refine pw_isub e_Mod_runsInput_80 ?_
    refine pw_goto (tgt := 86) e_Mod_runsInput_81 (by decide) ?_
    refine pw_iastU e_Mod_runsInput_86 (by omega) (by decide) ?_
    refine pw_vret e_Mod_runsInput_87 rfl ?_
    rw [f_Mod_runsInput_51, if_pos H1] at hk
    exact hk
def f_Mod_runsInput (P : Nat → Nat → Int32) (b : Nat) (k : Nat) (c : Nat → Int32) : Nat → Int32 :=
  if (c ((b + 8 * k) + 1)) = 2 then f_Mod_runsInput_51 P b k (upd c ((b + 8 * k) + 3) (c ((b + 200) + (pN P 4 k)))) (c ((b + 8 * k) + 1)) else f_Mod_runsInput_51 P b k c (c ((b + 8 * k) + 1))
set_option maxRecDepth 4000 in
theorem w_Mod_runsInput_0 {g : GG} {Q : QT} {h : Hp} {kc ks : Nat} (hst : (gl g).stackTraces = false) {A : Nat → Nat} {P : Nat → Nat → Int32} (hP : ∀ e, ModAt g A P (va_up h (A 0) e)) (hw : wfM P) (b : Nat) (k : Nat) (hb : b + 600 ≤ 18060) (hkk : k < 10)  (c : Nat → Int32) (hk : Q (.inl none) (va_up h (A 0) (some (aI g 18060 (f_Mod_runsInput P b k c))))) : PW g M_Mod_runsInput 1 kc ks Q 0 [.ref (A 100), .int (nI (b)), .int (nI (k)), .retAddr 0, .retAddr 0, .retAddr 0] [] (va_up h (A 0) (some (aI g 18060 (c)))) := by
  have hz0 := hw.blk.2
  have hz1 := hw.lnk.2
  have hz2 := hw.dvs.2
  refine pw_iload_n e_Mod_runsInput_0 rfl ?_
  refine pw_iload_n e_Mod_runsInput_1 rfl ?_
  refine pw_detS (As := [.int (nI (b)), .int (nI (k))]) e_Mod_runsInput_2 li_Mod_193 (q_at hst b k) rfl (by decide) (Nat.le_of_ble_eq_true rfl) rfl ?_
  refine pw_istore_n (ls2 := [_, _, _, _, _, _]) e_Mod_runsInput_5 (by decide) rfl ?_
  refine pw_aload_n e_Mod_runsInput_6 rfl ?_
  refine pw_getf e_Mod_runsInput_7 fl_Mod_9 (hP _).o rfl ?_
  refine pw_iload_n e_Mod_runsInput_10 rfl ?_
  refine pw_iconst (v := nI 1) e_Mod_runsInput_11 (by decide) ?_
  refine pw_iaddN e_Mod_runsInput_12 ?_
  refine pw_ialdN e_Mod_runsInput_13 up_same (by omega) (by decide) ?_
  refine pw_istore (ls2 := [_, _, _, _, _, _]) e_Mod_runsInput_14 (by decide) rfl ?_
  refine pw_aload_n e_Mod_runsInput_16 rfl ?_
  refine pw_getf e_Mod_runsInput_17 fl_Mod_22 (hP _).o rfl ?_
  refine pw_iload_n e_Mod_runsInput_20 rfl ?_
  have hb1 := hw.one k
  refine pw_ialdC e_Mod_runsInput_21 (hP _).a4 (by omega) (by decide) hb1.1 ?_
  replace hb1 := hb1.2
  refine pw_istore (ls2 := [_, _, _, _, _, _]) e_Mod_runsInput_22 (by decide) rfl ?_
  refine pw_iload e_Mod_runsInput_24 rfl ?_
  refine pw_iconst (v := nI 2) e_Mod_runsInput_26 (by decide) ?_
  refine pw_icmp_ne (tgt := 51) e_Mod_runsInput_27 (by decide) (fun (H2 : ¬ (c ((b + 8 * k) + 1)) = 2) => ?_) (fun (H2 : (c ((b + 8 * k) + 1)) = 2) => ?_)
  · refine w_Mod_runsInput_51 hst hP hw b k hb hkk c (c ((b + 8 * k) + 1)) ?_
    rw [f_Mod_runsInput, if_neg H2] at hk
    exact hk
  · refine pw_aload_n e_Mod_runsInput_30 rfl ?_
    refine pw_getf e_Mod_runsInput_31 fl_Mod_9 (hP _).o rfl ?_
    refine pw_iload_n e_Mod_runsInput_34 rfl ?_
    refine pw_iconst (v := nI 3) e_Mod_runsInput_35 (by decide) ?_
    refine pw_iaddN e_Mod_runsInput_36 ?_
    refine pw_aload_n e_Mod_runsInput_37 rfl ?_
    refine pw_getf e_Mod_runsInput_38 fl_Mod_9 (hP _).o rfl ?_
    refine pw_iload_n e_Mod_runsInput_41 rfl ?_
    refine pw_sipush (v := nI 200) e_Mod_runsInput_42 (by decide) ?_
    refine pw_iaddN e_Mod_runsInput_45 ?_
    refine pw_iload e_Mod_runsInput_46 rfl ?_
    refine pw_iaddN e_Mod_runsInput_48 ?_
    refine pw_ialdN e_Mod_runsInput_49 up_same (by omega) (by decide) ?_
    refine pw_iastU e_Mod_runsInput_50 (by omega) (by decide) ?_
    refine w_Mod_runsInput_51 hst hP hw b k hb hkk (upd c ((b + 8 * k) + 3) (c ((b + 200) + (pN P 4 k)))) (c ((b + 8 * k) + 1)) ?_
    rw [f_Mod_runsInput, if_pos H2] at hk
    exact hk
theorem q_Mod_runsInput {g : GG} {h : Hp} (hst : (gl g).stackTraces = false) {A : Nat → Nat} {P : Nat → Nat → Int32} (hP : ∀ e, ModAt g A P (va_up h (A 0) e)) (hw : wfM P) (b : Nat) (k : Nat) (hb : b + 600 ≤ 18060) (hkk : k < 10)  (c : Nat → Int32) (hm : h (A 0) = some (aI g 18060 c)) : PM g M_Mod_runsInput 1 0 0 [.ref (A 100), .int (nI (b)), .int (nI (k))] h (RetV none (va_up h (A 0) (some (aI g 18060 (f_Mod_runsInput P b k c))))) := by
  refine PM.of hst (by decide) rfl (fun v hv => ?_) (Nat.le_of_ble_eq_true rfl) ?_
  · simp only [List.mem_cons, List.not_mem_nil, or_false] at hv; rcases hv with rfl | rfl | rfl <;> rfl
  · have hq := w_Mod_runsInput_0 (g := g) (Q := RetV none (va_up h (A 0) (some (aI g 18060 (f_Mod_runsInput P b k c))))) (h := h) (kc := 0) (ks := 0) hst hP hw b k hb hkk c ?_
    · rw [up_self hm] at hq; exact hq
    · exact ⟨rfl, rfl⟩

def f_Mod_runsPick_164 (P : Nat → Nat → Int32) (b : Nat) (k : Nat) (c : Nat → Int32) (xv : Int32) (yv : Int32) : Nat → Int32 :=
  if (pN P 4 k) = 1 then if xv < yv then upd c ((b + 8 * k) + 3) yv else upd c ((b + 8 * k) + 3) xv else if xv < yv then upd c ((b + 8 * k) + 3) xv else upd c ((b + 8 * k) + 3) yv
set_option maxRecDepth 4000 in
theorem w_Mod_runsPick_164 {g : GG} {Q : QT} {h : Hp} {kc ks : Nat} (hst : (gl g).stackTraces = false) {A : Nat → Nat} {P : Nat → Nat → Int32} (hP : ∀ e, ModAt g A P (va_up h (A 0) e)) (hw : wfM P) (b : Nat) (k : Nat) (hb : b + 600 ≤ 18060) (hkk : k < 10)  (c : Nat → Int32) (xv : Int32) (yv : Int32) (hk : Q (.inl none) (va_up h (A 0) (some (aI g 18060 (f_Mod_runsPick_164 P b k c xv yv))))) : PW g M_Mod_runsPick 2 kc ks Q 164 [.ref (A 100), .int (nI (b)), .int (nI (k)), .int (nI (b + 8 * k)), .retAddr 0, .retAddr 0, .retAddr 0, .retAddr 0, .int (xv), .int (yv)] [] (va_up h (A 0) (some (aI g 18060 (c)))) := by
  have hz0 := hw.blk.2
  have hz1 := hw.lnk.2
  have hz2 := hw.dvs.2
  refine pw_aload_n e_Mod_runsPick_164 rfl ?_
  refine pw_getf e_Mod_runsPick_165 fl_Mod_9 (hP _).o rfl ?_
  refine pw_iload_n e_Mod_runsPick_168 rfl ?_
  refine pw_iconst (v := nI 3) e_Mod_runsPick_169 (by decide) ?_
  refine pw_iaddN e_Mod_runsPick_170 ?_
  refine pw_aload_n e_Mod_runsPick_171 rfl ?_
  refine pw_getf e_Mod_runsPick_172 fl_Mod_22 (hP _).o rfl ?_
  refine pw_iload_n e_Mod_runsPick_175 rfl ?_
  have hb1 := hw.one k
  refine pw_ialdC e_Mod_runsPick_176 (hP _).a4 (by omega) (by decide) hb1.1 ?_
  replace hb1 := hb1.2
  refine pw_iconst (v := nI 1) e_Mod_runsPick_177 (by decide) ?_
  refine pw_icmp_neN (tgt := 185) e_Mod_runsPick_178 (by decide) (by omega) (by omega) (fun (H2 : ¬ (pN P 4 k) = 1) => ?_) (fun (H2 : (pN P 4 k) = 1) => ?_)
  · refine pw_iconst (v := nI 0) e_Mod_runsPick_185 (by decide) ?_
    refine pw_iload e_Mod_runsPick_186 rfl ?_
    refine pw_iload e_Mod_runsPick_188 rfl ?_
    refine pw_icmp_lt (tgt := 197) e_Mod_runsPick_190 (by decide) (fun (H3 : xv < yv) => ?_) (fun (H3 : ¬ xv < yv) => ?_)
    · refine pw_iconst (v := nI 0) e_Mod_runsPick_197 (by decide) ?_
      refine pw_icmp_ne (tgt := 206) e_Mod_runsPick_198 (by decide) (fun (H4 : ¬ 0 = 0) => ?_) (fun (H4 : 0 = 0) => ?_)
      · exact absurd H4 (by decide)
      · refine pw_iload e_Mod_runsPick_201 rfl ?_
        refine pw_goto (tgt := 208) e_Mod_runsPick_203 (by decide) ?_
        refine pw_iastU e_Mod_runsPick_208 (by omega) (by decide) ?_
        refine pw_vret e_Mod_runsPick_209 rfl ?_
        rw [f_Mod_runsPick_164, if_neg H2, if_pos H3] at hk
        exact hk
    · refine pw_iconst (v := nI 1) e_Mod_runsPick_193 (by decide) ?_
      refine pw_goto (tgt := 198) e_Mod_runsPick_194 (by decide) ?_
      refine pw_icmp_ne (tgt := 206) e_Mod_runsPick_198 (by decide) (fun (H5 : ¬ 0 = 1) => ?_) (fun (H5 : 0 = 1) => ?_)
      · refine pw_iload e_Mod_runsPick_206 rfl ?_
        refine pw_iastU e_Mod_runsPick_208 (by omega) (by decide) ?_
        refine pw_vret e_Mod_runsPick_209 rfl ?_
        rw [f_Mod_runsPick_164, if_neg H2, if_neg H3] at hk
        exact hk
      · exact absurd H5 (by decide)
  · refine pw_iconst (v := nI 1) e_Mod_runsPick_181 (by decide) ?_
    refine pw_goto (tgt := 186) e_Mod_runsPick_182 (by decide) ?_
    refine pw_iload e_Mod_runsPick_186 rfl ?_
    refine pw_iload e_Mod_runsPick_188 rfl ?_
    refine pw_icmp_lt (tgt := 197) e_Mod_runsPick_190 (by decide) (fun (H6 : xv < yv) => ?_) (fun (H6 : ¬ xv < yv) => ?_)
    · refine pw_iconst (v := nI 0) e_Mod_runsPick_197 (by decide) ?_
      refine pw_icmp_ne (tgt := 206) e_Mod_runsPick_198 (by decide) (fun (H7 : ¬ 1 = 0) => ?_) (fun (H7 : 1 = 0) => ?_)
      · refine pw_iload e_Mod_runsPick_206 rfl ?_
        refine pw_iastU e_Mod_runsPick_208 (by omega) (by decide) ?_
        refine pw_vret e_Mod_runsPick_209 rfl ?_
        rw [f_Mod_runsPick_164, if_pos H2, if_pos H6] at hk
        exact hk
      · exact absurd H7 (by decide)
    · refine pw_iconst (v := nI 1) e_Mod_runsPick_193 (by decide) ?_
      refine pw_goto (tgt := 198) e_Mod_runsPick_194 (by decide) ?_
      refine pw_icmp_ne (tgt := 206) e_Mod_runsPick_198 (by decide) (fun (H8 : ¬ 1 = 1) => ?_) (fun (H8 : 1 = 1) => ?_)
      · exact absurd H8 (by decide)
      · refine pw_iload e_Mod_runsPick_201 rfl ?_
        refine pw_goto (tgt := 208) e_Mod_runsPick_203 (by decide) ?_
        refine pw_iastU e_Mod_runsPick_208 (by omega) (by decide) ?_
        refine pw_vret e_Mod_runsPick_209 rfl ?_
        rw [f_Mod_runsPick_164, if_pos H2, if_neg H6] at hk
        exact hk
def f_Mod_runsPick_139 (P : Nat → Nat → Int32) (b : Nat) (k : Nat) (c : Nat → Int32) (gv : Int32) (go : Int32) (xv : Int32) : Nat → Int32 :=
  if go = 0 then f_Mod_runsPick_164 P b k c xv xv else f_Mod_runsPick_164 P b k c xv (c ((b + 70 + 10 * lkP P k 1) + 0))
set_option maxRecDepth 4000 in
theorem w_Mod_runsPick_139 {g : GG} {Q : QT} {h : Hp} {kc ks : Nat} (hst : (gl g).stackTraces = false) {A : Nat → Nat} {P : Nat → Nat → Int32} (hP : ∀ e, ModAt g A P (va_up h (A 0) e)) (hw : wfM P) (b : Nat) (k : Nat) (hb : b + 600 ≤ 18060) (hkk : k < 10)  (c : Nat → Int32) (gv : Int32) (go : Int32) (xv : Int32) (hk : Q (.inl none) (va_up h (A 0) (some (aI g 18060 (f_Mod_runsPick_139 P b k c gv go xv))))) : PW g M_Mod_runsPick 2 kc ks Q 139 [.ref (A 100), .int (nI (b)), .int (nI (k)), .int (nI (b + 8 * k)), .int (f_Mod_linkTo P k 0), .int (f_Mod_linkTo P k 1), .int (gv), .int (go), .int (xv), .retAddr 0] [] (va_up h (A 0) (some (aI g 18060 (c)))) := by
  have hz0 := hw.blk.2
  have hz1 := hw.lnk.2
  have hz2 := hw.dvs.2
  refine pw_iload e_Mod_runsPick_139 rfl ?_
  refine pw_if_eq (tgt := 160) e_Mod_runsPick_141 (by decide) (fun (H1 : go = 0) => ?_) (fun (H1 : ¬ go = 0) => ?_)
  · refine pw_iload e_Mod_runsPick_160 rfl ?_
    refine pw_istore (ls2 := [_, _, _, _, _, _, _, _, _, _]) e_Mod_runsPick_162 (by decide) rfl ?_
    refine pw_fgt (ls' := [.ref (A 100), .int (nI (b)), .int (nI (k)), .int (nI (b + 8 * k)), .retAddr 0, .retAddr 0, .retAddr 0, .retAddr 0, .int (xv), .int (xv)]) ⟨Or.inr rfl, Or.inr rfl, Or.inr rfl, Or.inr rfl, Or.inl rfl, Or.inl rfl, Or.inl rfl, Or.inl rfl, Or.inr rfl, Or.inr rfl, trivial⟩ ?_
    refine w_Mod_runsPick_164 hst hP hw b k hb hkk c xv xv ?_
    rw [f_Mod_runsPick_139, if_pos H1] at hk
    exact hk
  · refine pw_aload_n e_Mod_runsPick_144 rfl ?_
    refine pw_getf e_Mod_runsPick_145 fl_Mod_9 (hP _).o rfl ?_
    refine pw_iload_n e_Mod_runsPick_148 rfl ?_
    refine pw_iload e_Mod_runsPick_149 rfl ?_
    have hb2 := (lk_of hw k 1).2
    refine pw_detS (As := [.int (nI (b)), .int (f_Mod_linkTo P k 1)]) e_Mod_runsPick_151 li_Mod_199 (q_lkA hst hw b k 1) rfl (by decide) (Nat.le_of_ble_eq_true rfl) rfl ?_
    refine pw_iconst (v := nI 0) e_Mod_runsPick_154 (by decide) ?_
    refine pw_iaddN e_Mod_runsPick_155 ?_
    refine pw_ialdN e_Mod_runsPick_156 up_same (by omega) (by decide) ?_
    refine pw_goto (tgt := 162) e_Mod_runsPick_157 (by decide) ?_
    refine pw_istore (ls2 := [_, _, _, _, _, _, _, _, _, _]) e_Mod_runsPick_162 (by decide) rfl ?_
    refine pw_fgt (ls' := [.ref (A 100), .int (nI (b)), .int (nI (k)), .int (nI (b + 8 * k)), .retAddr 0, .retAddr 0, .retAddr 0, .retAddr 0, .int (xv), .int (c ((b + 70 + 10 * lkP P k 1) + 0))]) ⟨Or.inr rfl, Or.inr rfl, Or.inr rfl, Or.inr rfl, Or.inl rfl, Or.inl rfl, Or.inl rfl, Or.inl rfl, Or.inr rfl, Or.inr rfl, trivial⟩ ?_
    refine w_Mod_runsPick_164 hst hP hw b k hb hkk c xv (c ((b + 70 + 10 * lkP P k 1) + 0)) ?_
    rw [f_Mod_runsPick_139, if_neg H1] at hk
    exact hk
def f_Mod_runsPick_92 (P : Nat → Nat → Int32) (b : Nat) (k : Nat) (c : Nat → Int32) (gv : Int32) (go : Int32) : Nat → Int32 :=
  if gv = 0 then if go = 0 then c else if gv = 0 then f_Mod_runsPick_139 P b k c gv go (c ((b + 70 + 10 * lkP P k 1) + 0)) else f_Mod_runsPick_139 P b k c gv go (c ((b + 70 + 10 * lkP P k 0) + 0)) else if gv = 0 then f_Mod_runsPick_139 P b k c gv go (c ((b + 70 + 10 * lkP P k 1) + 0)) else f_Mod_runsPick_139 P b k c gv go (c ((b + 70 + 10 * lkP P k 0) + 0))
set_option maxRecDepth 4000 in
theorem w_Mod_runsPick_92 {g : GG} {Q : QT} {h : Hp} {kc ks : Nat} (hst : (gl g).stackTraces = false) {A : Nat → Nat} {P : Nat → Nat → Int32} (hP : ∀ e, ModAt g A P (va_up h (A 0) e)) (hw : wfM P) (b : Nat) (k : Nat) (hb : b + 600 ≤ 18060) (hkk : k < 10)  (c : Nat → Int32) (gv : Int32) (go : Int32) (hk : Q (.inl none) (va_up h (A 0) (some (aI g 18060 (f_Mod_runsPick_92 P b k c gv go))))) : PW g M_Mod_runsPick 2 kc ks Q 92 [.ref (A 100), .int (nI (b)), .int (nI (k)), .int (nI (b + 8 * k)), .int (f_Mod_linkTo P k 0), .int (f_Mod_linkTo P k 1), .int (gv), .int (go), .retAddr 0, .retAddr 0] [] (va_up h (A 0) (some (aI g 18060 (c)))) := by
  have hz0 := hw.blk.2
  have hz1 := hw.lnk.2
  have hz2 := hw.dvs.2
  refine pw_iload e_Mod_runsPick_92 rfl ?_
  refine pw_if_ne (tgt := 103) e_Mod_runsPick_94 (by decide) (fun (H1 : ¬ gv = 0) => ?_) (fun (H1 : gv = 0) => ?_)
  · refine pw_iload e_Mod_runsPick_103 rfl ?_
    refine pw_if_eq (tgt := 124) e_Mod_runsPick_105 (by decide) (fun (H2 : gv = 0) => ?_) (fun (H2 : ¬ gv = 0) => ?_)
    · refine pw_aload_n e_Mod_runsPick_124 rfl ?_
      refine pw_getf e_Mod_runsPick_125 fl_Mod_9 (hP _).o rfl ?_
      refine pw_iload_n e_Mod_runsPick_128 rfl ?_
      refine pw_iload e_Mod_runsPick_129 rfl ?_
      have hb3 := (lk_of hw k 1).2
      refine pw_detS (As := [.int (nI (b)), .int (f_Mod_linkTo P k 1)]) e_Mod_runsPick_131 li_Mod_199 (q_lkA hst hw b k 1) rfl (by decide) (Nat.le_of_ble_eq_true rfl) rfl ?_
      refine pw_iconst (v := nI 0) e_Mod_runsPick_134 (by decide) ?_
      refine pw_iaddN e_Mod_runsPick_135 ?_
      refine pw_ialdN e_Mod_runsPick_136 up_same (by omega) (by decide) ?_
      refine pw_istore (ls2 := [_, _, _, _, _, _, _, _, _, _]) e_Mod_runsPick_137 (by decide) rfl ?_
      refine w_Mod_runsPick_139 hst hP hw b k hb hkk c gv go (c ((b + 70 + 10 * lkP P k 1) + 0)) ?_
      rw [f_Mod_runsPick_92, if_neg H1, if_pos H2] at hk
      exact hk
    · refine pw_aload_n e_Mod_runsPick_108 rfl ?_
      refine pw_getf e_Mod_runsPick_109 fl_Mod_9 (hP _).o rfl ?_
      refine pw_iload_n e_Mod_runsPick_112 rfl ?_
      refine pw_iload e_Mod_runsPick_113 rfl ?_
      have hb4 := (lk_of hw k 0).2
      refine pw_detS (As := [.int (nI (b)), .int (f_Mod_linkTo P k 0)]) e_Mod_runsPick_115 li_Mod_199 (q_lkA hst hw b k 0) rfl (by decide) (Nat.le_of_ble_eq_true rfl) rfl ?_
      refine pw_iconst (v := nI 0) e_Mod_runsPick_118 (by decide) ?_
      refine pw_iaddN e_Mod_runsPick_119 ?_
      refine pw_ialdN e_Mod_runsPick_120 up_same (by omega) (by decide) ?_
      refine pw_goto (tgt := 137) e_Mod_runsPick_121 (by decide) ?_
      refine pw_istore (ls2 := [_, _, _, _, _, _, _, _, _, _]) e_Mod_runsPick_137 (by decide) rfl ?_
      refine w_Mod_runsPick_139 hst hP hw b k hb hkk c gv go (c ((b + 70 + 10 * lkP P k 0) + 0)) ?_
      rw [f_Mod_runsPick_92, if_neg H1, if_neg H2] at hk
      exact hk
  · refine pw_iload e_Mod_runsPick_97 rfl ?_
    refine pw_if_ne (tgt := 103) e_Mod_runsPick_99 (by decide) (fun (H5 : ¬ go = 0) => ?_) (fun (H5 : go = 0) => ?_)
    · refine pw_iload e_Mod_runsPick_103 rfl ?_
      refine pw_if_eq (tgt := 124) e_Mod_runsPick_105 (by decide) (fun (H6 : gv = 0) => ?_) (fun (H6 : ¬ gv = 0) => ?_)
      · refine pw_aload_n e_Mod_runsPick_124 rfl ?_
        refine pw_getf e_Mod_runsPick_125 fl_Mod_9 (hP _).o rfl ?_
        refine pw_iload_n e_Mod_runsPick_128 rfl ?_
        refine pw_iload e_Mod_runsPick_129 rfl ?_
        have hb7 := (lk_of hw k 1).2
        refine pw_detS (As := [.int (nI (b)), .int (f_Mod_linkTo P k 1)]) e_Mod_runsPick_131 li_Mod_199 (q_lkA hst hw b k 1) rfl (by decide) (Nat.le_of_ble_eq_true rfl) rfl ?_
        refine pw_iconst (v := nI 0) e_Mod_runsPick_134 (by decide) ?_
        refine pw_iaddN e_Mod_runsPick_135 ?_
        refine pw_ialdN e_Mod_runsPick_136 up_same (by omega) (by decide) ?_
        refine pw_istore (ls2 := [_, _, _, _, _, _, _, _, _, _]) e_Mod_runsPick_137 (by decide) rfl ?_
        refine w_Mod_runsPick_139 hst hP hw b k hb hkk c gv go (c ((b + 70 + 10 * lkP P k 1) + 0)) ?_
        rw [f_Mod_runsPick_92, if_pos H1, if_neg H5, if_pos H6] at hk
        exact hk
      · refine pw_aload_n e_Mod_runsPick_108 rfl ?_
        refine pw_getf e_Mod_runsPick_109 fl_Mod_9 (hP _).o rfl ?_
        refine pw_iload_n e_Mod_runsPick_112 rfl ?_
        refine pw_iload e_Mod_runsPick_113 rfl ?_
        have hb8 := (lk_of hw k 0).2
        refine pw_detS (As := [.int (nI (b)), .int (f_Mod_linkTo P k 0)]) e_Mod_runsPick_115 li_Mod_199 (q_lkA hst hw b k 0) rfl (by decide) (Nat.le_of_ble_eq_true rfl) rfl ?_
        refine pw_iconst (v := nI 0) e_Mod_runsPick_118 (by decide) ?_
        refine pw_iaddN e_Mod_runsPick_119 ?_
        refine pw_ialdN e_Mod_runsPick_120 up_same (by omega) (by decide) ?_
        refine pw_goto (tgt := 137) e_Mod_runsPick_121 (by decide) ?_
        refine pw_istore (ls2 := [_, _, _, _, _, _, _, _, _, _]) e_Mod_runsPick_137 (by decide) rfl ?_
        refine w_Mod_runsPick_139 hst hP hw b k hb hkk c gv go (c ((b + 70 + 10 * lkP P k 0) + 0)) ?_
        rw [f_Mod_runsPick_92, if_pos H1, if_neg H5, if_neg H6] at hk
        exact hk
    · refine pw_vret e_Mod_runsPick_102 rfl ?_
      rw [f_Mod_runsPick_92, if_pos H1, if_pos H5] at hk
      exact hk
def f_Mod_runsPick_35 (P : Nat → Nat → Int32) (b : Nat) (k : Nat) (c : Nat → Int32) : Nat → Int32 :=
  if (f_Mod_isGood P b k 0 c) = 0 then if (f_Mod_isGood P b k 1 c) = 0 then f_Mod_runsPick_92 P b k (upd c ((b + 8 * k) + 5) 0) (f_Mod_isGood P b k 0 c) (f_Mod_isGood P b k 1 c) else f_Mod_runsPick_92 P b k (upd c ((b + 8 * k) + 5) 1) (f_Mod_isGood P b k 0 c) (f_Mod_isGood P b k 1 c) else f_Mod_runsPick_92 P b k (upd c ((b + 8 * k) + 5) 1) (f_Mod_isGood P b k 0 c) (f_Mod_isGood P b k 1 c)
set_option maxRecDepth 4000 in
theorem w_Mod_runsPick_35 {g : GG} {Q : QT} {h : Hp} {kc ks : Nat} (hst : (gl g).stackTraces = false) {A : Nat → Nat} {P : Nat → Nat → Int32} (hP : ∀ e, ModAt g A P (va_up h (A 0) e)) (hw : wfM P) (b : Nat) (k : Nat) (hb : b + 600 ≤ 18060) (hkk : k < 10)  (c : Nat → Int32) (hk : Q (.inl none) (va_up h (A 0) (some (aI g 18060 (f_Mod_runsPick_35 P b k c))))) : PW g M_Mod_runsPick 2 kc ks Q 35 [.ref (A 100), .int (nI (b)), .int (nI (k)), .int (nI (b + 8 * k)), .retAddr 0, .retAddr 0, .retAddr 0, .retAddr 0, .retAddr 0, .retAddr 0] [] (va_up h (A 0) (some (aI g 18060 (c)))) := by
  have hz0 := hw.blk.2
  have hz1 := hw.lnk.2
  have hz2 := hw.dvs.2
  refine pw_aload_n e_Mod_runsPick_35 rfl ?_
  refine pw_iload_n e_Mod_runsPick_36 rfl ?_
  refine pw_iconst (v := nI 0) e_Mod_runsPick_37 (by decide) ?_
  refine pw_detV (As := [.int (nI (k)), .int (nI (0))]) e_Mod_runsPick_38 li_Mod_196 rfl (hP _).o (q_Mod_linkTo hst (hP _) hw k 0 (by omega) (by omega)) rfl (by decide) (Nat.le_of_ble_eq_true rfl) rfl ?_
  refine pw_istore (ls2 := [_, _, _, _, _, _, _, _, _, _]) e_Mod_runsPick_41 (by decide) rfl ?_
  refine pw_aload_n e_Mod_runsPick_43 rfl ?_
  refine pw_iload_n e_Mod_runsPick_44 rfl ?_
  refine pw_iconst (v := nI 1) e_Mod_runsPick_45 (by decide) ?_
  refine pw_detV (As := [.int (nI (k)), .int (nI (1))]) e_Mod_runsPick_46 li_Mod_196 rfl (hP _).o (q_Mod_linkTo hst (hP _) hw k 1 (by omega) (by omega)) rfl (by decide) (Nat.le_of_ble_eq_true rfl) rfl ?_
  refine pw_istore (ls2 := [_, _, _, _, _, _, _, _, _, _]) e_Mod_runsPick_49 (by decide) rfl ?_
  refine pw_aload_n e_Mod_runsPick_51 rfl ?_
  refine pw_iload_n e_Mod_runsPick_52 rfl ?_
  refine pw_iload e_Mod_runsPick_53 rfl ?_
  refine pw_detV (As := [.int (nI (b)), .int (f_Mod_linkTo P k 0)]) e_Mod_runsPick_55 li_Mod_217 rfl (hP _).o (q_Mod_isGood hst (fun e => by rw [up_up]; exact hP e) hw b k 0 (by omega) c up_same) rfl (by decide) (Nat.le_of_ble_eq_true rfl) rfl ?_
  refine pw_istore (ls2 := [_, _, _, _, _, _, _, _, _, _]) e_Mod_runsPick_58 (by decide) rfl ?_
  refine pw_aload_n e_Mod_runsPick_60 rfl ?_
  refine pw_iload_n e_Mod_runsPick_61 rfl ?_
  refine pw_iload e_Mod_runsPick_62 rfl ?_
  refine pw_detV (As := [.int (nI (b)), .int (f_Mod_linkTo P k 1)]) e_Mod_runsPick_64 li_Mod_217 rfl (hP _).o (q_Mod_isGood hst (fun e => by rw [up_up]; exact hP e) hw b k 1 (by omega) c up_same) rfl (by decide) (Nat.le_of_ble_eq_true rfl) rfl ?_
  refine pw_istore (ls2 := [_, _, _, _, _, _, _, _, _, _]) e_Mod_runsPick_67 (by decide) rfl ?_
  refine pw_aload_n e_Mod_runsPick_69 rfl ?_
  refine pw_getf e_Mod_runsPick_70 fl_Mod_9 (hP _).o rfl ?_
  refine pw_iload_n e_Mod_runsPick_73 rfl ?_
  refine pw_iconst (v := nI 5) e_Mod_runsPick_74 (by decide) ?_
  refine pw_iaddN e_Mod_runsPick_75 ?_
  refine pw_iload e_Mod_runsPick_76 rfl ?_
  refine pw_if_ne (tgt := 86) e_Mod_runsPick_78 (by decide) (fun (H1 : ¬ (f_Mod_isGood P b k 0 c) = 0) => ?_) (fun (H1 : (f_Mod_isGood P b k 0 c) = 0) => ?_)
  · refine pw_iconst (v := nI 1) e_Mod_runsPick_86 (by decide) ?_
    refine pw_goto (tgt := 91) e_Mod_runsPick_87 (by decide) ?_
    refine pw_iastU e_Mod_runsPick_91 (by omega) (by decide) ?_
    refine w_Mod_runsPick_92 hst hP hw b k hb hkk (upd c ((b + 8 * k) + 5) 1) (f_Mod_isGood P b k 0 c) (f_Mod_isGood P b k 1 c) ?_
    rw [f_Mod_runsPick_35, if_neg H1] at hk
    exact hk
  · refine pw_iload e_Mod_runsPick_81 rfl ?_
    refine pw_if_eq (tgt := 90) e_Mod_runsPick_83 (by decide) (fun (H2 : (f_Mod_isGood P b k 1 c) = 0) => ?_) (fun (H2 : ¬ (f_Mod_isGood P b k 1 c) = 0) => ?_)
    · refine pw_iconst (v := nI 0) e_Mod_runsPick_90 (by decide) ?_
      refine pw_iastU e_Mod_runsPick_91 (by omega) (by decide) ?_
      refine w_Mod_runsPick_92 hst hP hw b k hb hkk (upd c ((b + 8 * k) + 5) 0) (f_Mod_isGood P b k 0 c) (f_Mod_isGood P b k 1 c) ?_
      rw [f_Mod_runsPick_35, if_pos H1, if_pos H2] at hk
      exact hk
    · refine pw_iconst (v := nI 1) e_Mod_runsPick_86 (by decide) ?_
      refine pw_goto (tgt := 91) e_Mod_runsPick_87 (by decide) ?_
      refine pw_iastU e_Mod_runsPick_91 (by omega) (by decide) ?_
      refine w_Mod_runsPick_92 hst hP hw b k hb hkk (upd c ((b + 8 * k) + 5) 1) (f_Mod_isGood P b k 0 c) (f_Mod_isGood P b k 1 c) ?_
      rw [f_Mod_runsPick_35, if_pos H1, if_neg H2] at hk
      exact hk
def f_Mod_runsPick (P : Nat → Nat → Int32) (b : Nat) (k : Nat) (c : Nat → Int32) : Nat → Int32 :=
  if 2 ≤ (c ((b + 8 * k) + 1)) then f_Mod_runsPick_35 P b k c else upd c ((b + 8 * k) + 5) (c ((b + 8 * k) + 1))
set_option maxRecDepth 4000 in
theorem w_Mod_runsPick_0 {g : GG} {Q : QT} {h : Hp} {kc ks : Nat} (hst : (gl g).stackTraces = false) {A : Nat → Nat} {P : Nat → Nat → Int32} (hP : ∀ e, ModAt g A P (va_up h (A 0) e)) (hw : wfM P) (b : Nat) (k : Nat) (hb : b + 600 ≤ 18060) (hkk : k < 10)  (c : Nat → Int32) (hk : Q (.inl none) (va_up h (A 0) (some (aI g 18060 (f_Mod_runsPick P b k c))))) : PW g M_Mod_runsPick 2 kc ks Q 0 [.ref (A 100), .int (nI (b)), .int (nI (k)), .retAddr 0, .retAddr 0, .retAddr 0, .retAddr 0, .retAddr 0, .retAddr 0, .retAddr 0] [] (va_up h (A 0) (some (aI g 18060 (c)))) := by
  have hz0 := hw.blk.2
  have hz1 := hw.lnk.2
  have hz2 := hw.dvs.2
  refine pw_iload_n e_Mod_runsPick_0 rfl ?_
  refine pw_iload_n e_Mod_runsPick_1 rfl ?_
  refine pw_detS (As := [.int (nI (b)), .int (nI (k))]) e_Mod_runsPick_2 li_Mod_193 (q_at hst b k) rfl (by decide) (Nat.le_of_ble_eq_true rfl) rfl ?_
  refine pw_istore_n (ls2 := [_, _, _, _, _, _, _, _, _, _]) e_Mod_runsPick_5 (by decide) rfl ?_
  refine pw_aload_n e_Mod_runsPick_6 rfl ?_
  refine pw_getf e_Mod_runsPick_7 fl_Mod_9 (hP _).o rfl ?_
  refine pw_iload_n e_Mod_runsPick_10 rfl ?_
  refine pw_iconst (v := nI 1) e_Mod_runsPick_11 (by decide) ?_
  refine pw_iaddN e_Mod_runsPick_12 ?_
  refine pw_ialdN e_Mod_runsPick_13 up_same (by omega) (by decide) ?_
  refine pw_iconst (v := nI 2) e_Mod_runsPick_14 (by decide) ?_
  refine pw_icmp_ge (tgt := 35) e_Mod_runsPick_15 (by decide) (fun (H1 : 2 ≤ (c ((b + 8 * k) + 1))) => ?_) (fun (H1 : ¬ 2 ≤ (c ((b + 8 * k) + 1))) => ?_)
  · refine w_Mod_runsPick_35 hst hP hw b k hb hkk c ?_
    rw [f_Mod_runsPick, if_pos H1] at hk
    exact hk
  · refine pw_aload_n e_Mod_runsPick_18 rfl ?_
    refine pw_getf e_Mod_runsPick_19 fl_Mod_9 (hP _).o rfl ?_
    refine pw_iload_n e_Mod_runsPick_22 rfl ?_
    refine pw_iconst (v := nI 5) e_Mod_runsPick_23 (by decide) ?_
    refine pw_iaddN e_Mod_runsPick_24 ?_
    refine pw_aload_n e_Mod_runsPick_25 rfl ?_
    refine pw_getf e_Mod_runsPick_26 fl_Mod_9 (hP _).o rfl ?_
    refine pw_iload_n e_Mod_runsPick_29 rfl ?_
    refine pw_iconst (v := nI 1) e_Mod_runsPick_30 (by decide) ?_
    refine pw_iaddN e_Mod_runsPick_31 ?_
    refine pw_ialdN e_Mod_runsPick_32 up_same (by omega) (by decide) ?_
    refine pw_iastU e_Mod_runsPick_33 (by omega) (by decide) ?_
    refine pw_vret e_Mod_runsPick_34 rfl ?_
    rw [f_Mod_runsPick, if_neg H1] at hk
    exact hk
theorem q_Mod_runsPick {g : GG} {h : Hp} (hst : (gl g).stackTraces = false) {A : Nat → Nat} {P : Nat → Nat → Int32} (hP : ∀ e, ModAt g A P (va_up h (A 0) e)) (hw : wfM P) (b : Nat) (k : Nat) (hb : b + 600 ≤ 18060) (hkk : k < 10)  (c : Nat → Int32) (hm : h (A 0) = some (aI g 18060 c)) : PM g M_Mod_runsPick 2 0 0 [.ref (A 100), .int (nI (b)), .int (nI (k))] h (RetV none (va_up h (A 0) (some (aI g 18060 (f_Mod_runsPick P b k c))))) := by
  refine PM.of hst (by decide) rfl (fun v hv => ?_) (Nat.le_of_ble_eq_true rfl) ?_
  · simp only [List.mem_cons, List.not_mem_nil, or_false] at hv; rcases hv with rfl | rfl | rfl <;> rfl
  · have hq := w_Mod_runsPick_0 (g := g) (Q := RetV none (va_up h (A 0) (some (aI g 18060 (f_Mod_runsPick P b k c))))) (h := h) (kc := 0) (ks := 0) hst hP hw b k hb hkk c ?_
    · rw [up_self hm] at hq; exact hq
    · exact ⟨rfl, rfl⟩

def f_Mod_runsOutput_179 (P : Nat → Nat → Int32) (b : Nat) (k : Nat) (c : Nat → Int32) (ou : Int32) (se : Int32) : Nat → Int32 :=
  if ou = 1000 then upd c ((b + 8 * k) + 6) 2 else if se ≤ ou then if ou = 0 then upd c ((b + 8 * k) + 6) 1 else if ou ≤ se then upd c ((b + 8 * k) + 6) 0 else upd c ((b + 8 * k) + 6) 1 else upd c ((b + 8 * k) + 6) 2
set_option maxRecDepth 4000 in
theorem w_Mod_runsOutput_179 {g : GG} {Q : QT} {h : Hp} {kc ks : Nat} (hst : (gl g).stackTraces = false) {A : Nat → Nat} {P : Nat → Nat → Int32} (hP : ∀ e, ModAt g A P (va_up h (A 0) e)) (hw : wfM P) (b : Nat) (k : Nat) (hb : b + 600 ≤ 18060) (hkk : k < 10)  (c : Nat → Int32) (ou : Int32) (se : Int32) (hk : Q (.inl none) (va_up h (A 0) (some (aI g 18060 (f_Mod_runsOutput_179 P b k c ou se))))) : PW g M_Mod_runsOutput 1 kc ks Q 179 [.ref (A 100), .int (nI (b)), .int (nI (k)), .int (nI (b + 8 * k)), .retAddr 0, .retAddr 0, .retAddr 0, .int (ou), .int (se)] [] (va_up h (A 0) (some (aI g 18060 (c)))) := by
  have hz0 := hw.blk.2
  have hz1 := hw.lnk.2
  have hz2 := hw.dvs.2
  refine pw_aload_n e_Mod_runsOutput_179 rfl ?_
  refine pw_getf e_Mod_runsOutput_180 fl_Mod_9 (hP _).o rfl ?_
  refine pw_iload_n e_Mod_runsOutput_183 rfl ?_
  refine pw_bipush (v := nI 6) e_Mod_runsOutput_184 (by decide) ?_
  refine pw_iaddN e_Mod_runsOutput_186 ?_
  refine pw_iload e_Mod_runsOutput_187 rfl ?_
  refine pw_sipush (v := nI 1000) e_Mod_runsOutput_189 (by decide) ?_
  refine pw_icmp_eq (tgt := 202) e_Mod_runsOutput_192 (by decide) (fun (H1 : ou = 1000) => ?_) (fun (H1 : ¬ ou = 1000) => ?_)
  · refine pw_iconst (v := nI 2) e_Mod_runsOutput_202 (by decide) ?_
    refine pw_goto (tgt := 223) e_Mod_runsOutput_203 (by decide) ?_
    refine pw_iastU e_Mod_runsOutput_223 (by omega) (by decide) ?_
    refine pw_vret e_Mod_runsOutput_224 rfl ?_
    rw [f_Mod_runsOutput_179, if_pos H1] at hk
    exact hk
  · refine pw_iload e_Mod_runsOutput_195 rfl ?_
    refine pw_iload e_Mod_runsOutput_197 rfl ?_
    refine pw_icmp_le (tgt := 206) e_Mod_runsOutput_199 (by decide) (fun (H2 : se ≤ ou) => ?_) (fun (H2 : ¬ se ≤ ou) => ?_)
    · refine pw_iload e_Mod_runsOutput_206 rfl ?_
      refine pw_if_eq (tgt := 218) e_Mod_runsOutput_208 (by decide) (fun (H3 : ou = 0) => ?_) (fun (H3 : ¬ ou = 0) => ?_)
      · refine pw_iconst (v := nI 1) e_Mod_runsOutput_218 (by decide) ?_
        refine pw_goto (tgt := 223) e_Mod_runsOutput_219 (by decide) ?_
        refine pw_iastU e_Mod_runsOutput_223 (by omega) (by decide) ?_
        refine pw_vret e_Mod_runsOutput_224 rfl ?_
        rw [f_Mod_runsOutput_179, if_neg H1, if_pos H2, if_pos H3] at hk
        exact hk
      · refine pw_iload e_Mod_runsOutput_211 rfl ?_
        refine pw_iload e_Mod_runsOutput_213 rfl ?_
        refine pw_icmp_ge (tgt := 222) e_Mod_runsOutput_215 (by decide) (fun (H4 : ou ≤ se) => ?_) (fun (H4 : ¬ ou ≤ se) => ?_)
        · refine pw_iconst (v := nI 0) e_Mod_runsOutput_222 (by decide) ?_
          refine pw_iastU e_Mod_runsOutput_223 (by omega) (by decide) ?_
          refine pw_vret e_Mod_runsOutput_224 rfl ?_
          rw [f_Mod_runsOutput_179, if_neg H1, if_pos H2, if_neg H3, if_pos H4] at hk
          exact hk
        · refine pw_iconst (v := nI 1) e_Mod_runsOutput_218 (by decide) ?_
          refine pw_goto (tgt := 223) e_Mod_runsOutput_219 (by decide) ?_
          refine pw_iastU e_Mod_runsOutput_223 (by omega) (by decide) ?_
          refine pw_vret e_Mod_runsOutput_224 rfl ?_
          rw [f_Mod_runsOutput_179, if_neg H1, if_pos H2, if_neg H3, if_neg H4] at hk
          exact hk
    · refine pw_iconst (v := nI 2) e_Mod_runsOutput_202 (by decide) ?_
      refine pw_goto (tgt := 223) e_Mod_runsOutput_203 (by decide) ?_
      refine pw_iastU e_Mod_runsOutput_223 (by omega) (by decide) ?_
      refine pw_vret e_Mod_runsOutput_224 rfl ?_
      rw [f_Mod_runsOutput_179, if_neg H1, if_neg H2] at hk
      exact hk
def f_Mod_runsOutput_141 (P : Nat → Nat → Int32) (b : Nat) (k : Nat) (c : Nat → Int32) (md : Int32) : Nat → Int32 :=
  if md = 0 then f_Mod_runsOutput_179 P b k (upd c ((b + 8 * k) + 5) 0) (c ((b + 8 * k) + 3)) (c ((b + 8 * k) + 2)) else f_Mod_runsOutput_179 P b k (upd c ((b + 8 * k) + 5) 1) (c ((b + 8 * k) + 3)) (c ((b + 8 * k) + 2))
set_option maxRecDepth 4000 in
theorem w_Mod_runsOutput_141 {g : GG} {Q : QT} {h : Hp} {kc ks : Nat} (hst : (gl g).stackTraces = false) {A : Nat → Nat} {P : Nat → Nat → Int32} (hP : ∀ e, ModAt g A P (va_up h (A 0) e)) (hw : wfM P) (b : Nat) (k : Nat) (hb : b + 600 ≤ 18060) (hkk : k < 10)  (c : Nat → Int32) (md : Int32) (hk : Q (.inl none) (va_up h (A 0) (some (aI g 18060 (f_Mod_runsOutput_141 P b k c md))))) : PW g M_Mod_runsOutput 1 kc ks Q 141 [.ref (A 100), .int (nI (b)), .int (nI (k)), .int (nI (b + 8 * k)), .int (md), .retAddr 0, .retAddr 0, .retAddr 0, .retAddr 0] [] (va_up h (A 0) (some (aI g 18060 (c)))) := by
  have hz0 := hw.blk.2
  have hz1 := hw.lnk.2
  have hz2 := hw.dvs.2
  refine pw_aload_n e_Mod_runsOutput_141 rfl ?_
  refine pw_getf e_Mod_runsOutput_142 fl_Mod_9 (hP _).o rfl ?_
  refine pw_iload_n e_Mod_runsOutput_145 rfl ?_
  refine pw_iconst (v := nI 3) e_Mod_runsOutput_146 (by decide) ?_
  refine pw_iaddN e_Mod_runsOutput_147 ?_
  refine pw_ialdN e_Mod_runsOutput_148 up_same (by omega) (by decide) ?_
  refine pw_istore (ls2 := [_, _, _, _, _, _, _, _, _]) e_Mod_runsOutput_149 (by decide) rfl ?_
  refine pw_aload_n e_Mod_runsOutput_151 rfl ?_
  refine pw_getf e_Mod_runsOutput_152 fl_Mod_9 (hP _).o rfl ?_
  refine pw_iload_n e_Mod_runsOutput_155 rfl ?_
  refine pw_iconst (v := nI 2) e_Mod_runsOutput_156 (by decide) ?_
  refine pw_iaddN e_Mod_runsOutput_157 ?_
  refine pw_ialdN e_Mod_runsOutput_158 up_same (by omega) (by decide) ?_
  refine pw_istore (ls2 := [_, _, _, _, _, _, _, _, _]) e_Mod_runsOutput_159 (by decide) rfl ?_
  refine pw_aload_n e_Mod_runsOutput_161 rfl ?_
  refine pw_getf e_Mod_runsOutput_162 fl_Mod_9 (hP _).o rfl ?_
  refine pw_iload_n e_Mod_runsOutput_165 rfl ?_
  refine pw_iconst (v := nI 5) e_Mod_runsOutput_166 (by decide) ?_
  refine pw_iaddN e_Mod_runsOutput_167 ?_
  refine pw_iload e_Mod_runsOutput_168 rfl ?_
  refine pw_if_ne (tgt := 177) e_Mod_runsOutput_170 (by decide) (fun (H1 : ¬ md = 0) => ?_) (fun (H1 : md = 0) => ?_)
  · refine pw_iconst (v := nI 1) e_Mod_runsOutput_177 (by decide) ?_
    refine pw_iastU e_Mod_runsOutput_178 (by omega) (by decide) ?_
    refine pw_fgt (ls' := [.ref (A 100), .int (nI (b)), .int (nI (k)), .int (nI (b + 8 * k)), .retAddr 0, .retAddr 0, .retAddr 0, .int (c ((b + 8 * k) + 3)), .int (c ((b + 8 * k) + 2))]) ⟨Or.inr rfl, Or.inr rfl, Or.inr rfl, Or.inr rfl, Or.inl rfl, Or.inr rfl, Or.inr rfl, Or.inr rfl, Or.inr rfl, trivial⟩ ?_
    refine w_Mod_runsOutput_179 hst hP hw b k hb hkk (upd c ((b + 8 * k) + 5) 1) (c ((b + 8 * k) + 3)) (c ((b + 8 * k) + 2)) ?_
    rw [f_Mod_runsOutput_141, if_neg H1] at hk
    exact hk
  · refine pw_iconst (v := nI 0) e_Mod_runsOutput_173 (by decide) ?_
    refine pw_goto (tgt := 178) e_Mod_runsOutput_174 (by decide) ?_
    refine pw_iastU e_Mod_runsOutput_178 (by omega) (by decide) ?_
    refine pw_fgt (ls' := [.ref (A 100), .int (nI (b)), .int (nI (k)), .int (nI (b + 8 * k)), .retAddr 0, .retAddr 0, .retAddr 0, .int (c ((b + 8 * k) + 3)), .int (c ((b + 8 * k) + 2))]) ⟨Or.inr rfl, Or.inr rfl, Or.inr rfl, Or.inr rfl, Or.inl rfl, Or.inr rfl, Or.inr rfl, Or.inr rfl, Or.inr rfl, trivial⟩ ?_
    refine w_Mod_runsOutput_179 hst hP hw b k hb hkk (upd c ((b + 8 * k) + 5) 0) (c ((b + 8 * k) + 3)) (c ((b + 8 * k) + 2)) ?_
    rw [f_Mod_runsOutput_141, if_pos H1] at hk
    exact hk
def f_Mod_runsOutput_69 (P : Nat → Nat → Int32) (b : Nat) (k : Nat) (c : Nat → Int32) (md : Int32) : Nat → Int32 :=
  if md ≤ 1 then f_Mod_runsOutput_141 P b k c md else if ((c ((b + 8 * k) + 2)) - (c ((b + 8 * k) + 3))) ≤ ((P 5) k) then if (-((P 5) k)) ≤ ((c ((b + 8 * k) + 2)) - (c ((b + 8 * k) + 3))) then f_Mod_runsOutput_141 P b k (upd c ((b + 8 * k) + 3) ((c ((b + 8 * k) + 3)) + ((c ((b + 8 * k) + 2)) - (c ((b + 8 * k) + 3))))) md else f_Mod_runsOutput_141 P b k (upd c ((b + 8 * k) + 3) ((c ((b + 8 * k) + 3)) + (-((P 5) k)))) md else f_Mod_runsOutput_141 P b k (upd c ((b + 8 * k) + 3) ((c ((b + 8 * k) + 3)) + ((P 5) k))) md
set_option maxRecDepth 4000 in
theorem w_Mod_runsOutput_69 {g : GG} {Q : QT} {h : Hp} {kc ks : Nat} (hst : (gl g).stackTraces = false) {A : Nat → Nat} {P : Nat → Nat → Int32} (hP : ∀ e, ModAt g A P (va_up h (A 0) e)) (hw : wfM P) (b : Nat) (k : Nat) (hb : b + 600 ≤ 18060) (hkk : k < 10)  (c : Nat → Int32) (md : Int32) (hk : Q (.inl none) (va_up h (A 0) (some (aI g 18060 (f_Mod_runsOutput_69 P b k c md))))) : PW g M_Mod_runsOutput 1 kc ks Q 69 [.ref (A 100), .int (nI (b)), .int (nI (k)), .int (nI (b + 8 * k)), .int (md), .retAddr 0, .retAddr 0, .retAddr 0, .retAddr 0] [] (va_up h (A 0) (some (aI g 18060 (c)))) := by
  have hz0 := hw.blk.2
  have hz1 := hw.lnk.2
  have hz2 := hw.dvs.2
  refine pw_aload_n e_Mod_runsOutput_69 rfl ?_
  refine pw_getf e_Mod_runsOutput_70 fl_Mod_9 (hP _).o rfl ?_
  refine pw_iload_n e_Mod_runsOutput_73 rfl ?_
  refine pw_iconst (v := nI 2) e_Mod_runsOutput_74 (by decide) ?_
  refine pw_iaddN e_Mod_runsOutput_75 ?_
  refine pw_ialdN e_Mod_runsOutput_76 up_same (by omega) (by decide) ?_
  refine pw_aload_n e_Mod_runsOutput_77 rfl ?_
  refine pw_getf e_Mod_runsOutput_78 fl_Mod_9 (hP _).o rfl ?_
  refine pw_iload_n e_Mod_runsOutput_81 rfl ?_
  refine pw_iconst (v := nI 3) e_Mod_runsOutput_82 (by decide) ?_
  refine pw_iaddN e_Mod_runsOutput_83 ?_
  refine pw_ialdN e_Mod_runsOutput_84 up_same (by omega) (by decide) ?_
  refine pw_isub e_Mod_runsOutput_85 ?_
  refine pw_istore (ls2 := [_, _, _, _, _, _, _, _, _]) e_Mod_runsOutput_86 (by decide) rfl ?_
  refine pw_aload_n e_Mod_runsOutput_88 rfl ?_
  refine pw_getf e_Mod_runsOutput_89 fl_Mod_25 (hP _).o rfl ?_
  refine pw_iload_n e_Mod_runsOutput_92 rfl ?_
  refine pw_ialdN e_Mod_runsOutput_93 (hP _).a5 (by omega) (by decide) ?_
  refine pw_istore (ls2 := [_, _, _, _, _, _, _, _, _]) e_Mod_runsOutput_94 (by decide) rfl ?_
  refine pw_iload e_Mod_runsOutput_96 rfl ?_
  refine pw_iconst (v := nI 1) e_Mod_runsOutput_98 (by decide) ?_
  refine pw_icmp_le (tgt := 141) e_Mod_runsOutput_99 (by decide) (fun (H1 : md ≤ 1) => ?_) (fun (H1 : ¬ md ≤ 1) => ?_)
  · refine pw_fgt (ls' := [.ref (A 100), .int (nI (b)), .int (nI (k)), .int (nI (b + 8 * k)), .int (md), .retAddr 0, .retAddr 0, .retAddr 0, .retAddr 0]) ⟨Or.inr rfl, Or.inr rfl, Or.inr rfl, Or.inr rfl, Or.inr rfl, Or.inl rfl, Or.inl rfl, Or.inr rfl, Or.inr rfl, trivial⟩ ?_
    refine w_Mod_runsOutput_141 hst hP hw b k hb hkk c md ?_
    rw [f_Mod_runsOutput_69, if_pos H1] at hk
    exact hk
  · refine pw_aload_n e_Mod_runsOutput_102 rfl ?_
    refine pw_getf e_Mod_runsOutput_103 fl_Mod_9 (hP _).o rfl ?_
    refine pw_iload_n e_Mod_runsOutput_106 rfl ?_
    refine pw_iconst (v := nI 3) e_Mod_runsOutput_107 (by decide) ?_
    refine pw_iaddN e_Mod_runsOutput_108 ?_
    refine pw_dup2 e_Mod_runsOutput_109 rfl rfl ?_
    refine pw_ialdN e_Mod_runsOutput_110 up_same (by omega) (by decide) ?_
    refine pw_iload e_Mod_runsOutput_111 rfl ?_
    refine pw_iload e_Mod_runsOutput_113 rfl ?_
    refine pw_icmp_le (tgt := 123) e_Mod_runsOutput_115 (by decide) (fun (H2 : ((c ((b + 8 * k) + 2)) - (c ((b + 8 * k) + 3))) ≤ ((P 5) k)) => ?_) (fun (H2 : ¬ ((c ((b + 8 * k) + 2)) - (c ((b + 8 * k) + 3))) ≤ ((P 5) k)) => ?_)
    · refine pw_iload e_Mod_runsOutput_123 rfl ?_
      refine pw_iload e_Mod_runsOutput_125 rfl ?_
      refine pw_ineg e_Mod_runsOutput_127 ?_
      refine pw_icmp_ge (tgt := 137) e_Mod_runsOutput_128 (by decide) (fun (H3 : (-((P 5) k)) ≤ ((c ((b + 8 * k) + 2)) - (c ((b + 8 * k) + 3)))) => ?_) (fun (H3 : ¬ (-((P 5) k)) ≤ ((c ((b + 8 * k) + 2)) - (c ((b + 8 * k) + 3)))) => ?_)
      · refine pw_iload e_Mod_runsOutput_137 rfl ?_
        refine pw_iadd e_Mod_runsOutput_139 ?_
        refine pw_iastU e_Mod_runsOutput_140 (by omega) (by decide) ?_
        refine pw_fgt (ls' := [.ref (A 100), .int (nI (b)), .int (nI (k)), .int (nI (b + 8 * k)), .int (md), .retAddr 0, .retAddr 0, .retAddr 0, .retAddr 0]) ⟨Or.inr rfl, Or.inr rfl, Or.inr rfl, Or.inr rfl, Or.inr rfl, Or.inl rfl, Or.inl rfl, Or.inr rfl, Or.inr rfl, trivial⟩ ?_
        refine w_Mod_runsOutput_141 hst hP hw b k hb hkk (upd c ((b + 8 * k) + 3) ((c ((b + 8 * k) + 3)) + ((c ((b + 8 * k) + 2)) - (c ((b + 8 * k) + 3))))) md ?_
        rw [f_Mod_runsOutput_69, if_neg H1, if_pos H2, if_pos H3] at hk
        exact hk
      · refine pw_iload e_Mod_runsOutput_131 rfl ?_
        refine pw_ineg e_Mod_runsOutput_133 ?_
        refine pw_goto (tgt := 139) e_Mod_runsOutput_134 (by decide) ?_
        refine pw_iadd e_Mod_runsOutput_139 ?_
        refine pw_iastU e_Mod_runsOutput_140 (by omega) (by decide) ?_
        refine pw_fgt (ls' := [.ref (A 100), .int (nI (b)), .int (nI (k)), .int (nI (b + 8 * k)), .int (md), .retAddr 0, .retAddr 0, .retAddr 0, .retAddr 0]) ⟨Or.inr rfl, Or.inr rfl, Or.inr rfl, Or.inr rfl, Or.inr rfl, Or.inl rfl, Or.inl rfl, Or.inr rfl, Or.inr rfl, trivial⟩ ?_
        refine w_Mod_runsOutput_141 hst hP hw b k hb hkk (upd c ((b + 8 * k) + 3) ((c ((b + 8 * k) + 3)) + (-((P 5) k)))) md ?_
        rw [f_Mod_runsOutput_69, if_neg H1, if_pos H2, if_neg H3] at hk
        exact hk
    · refine pw_iload e_Mod_runsOutput_118 rfl ?_
      refine pw_goto (tgt := 139) e_Mod_runsOutput_120 (by decide) ?_
      refine pw_iadd e_Mod_runsOutput_139 ?_
      refine pw_iastU e_Mod_runsOutput_140 (by omega) (by decide) ?_
      refine pw_fgt (ls' := [.ref (A 100), .int (nI (b)), .int (nI (k)), .int (nI (b + 8 * k)), .int (md), .retAddr 0, .retAddr 0, .retAddr 0, .retAddr 0]) ⟨Or.inr rfl, Or.inr rfl, Or.inr rfl, Or.inr rfl, Or.inr rfl, Or.inl rfl, Or.inl rfl, Or.inr rfl, Or.inr rfl, trivial⟩ ?_
      refine w_Mod_runsOutput_141 hst hP hw b k hb hkk (upd c ((b + 8 * k) + 3) ((c ((b + 8 * k) + 3)) + ((P 5) k))) md ?_
      rw [f_Mod_runsOutput_69, if_neg H1, if_neg H2] at hk
      exact hk
def f_Mod_runsOutput_47 (P : Nat → Nat → Int32) (b : Nat) (k : Nat) (c : Nat → Int32) (md : Int32) : Nat → Int32 :=
  if md = 1 then f_Mod_runsOutput_69 P b k (upd c ((b + 8 * k) + 2) (c ((b + 8 * k) + 3))) md else f_Mod_runsOutput_69 P b k c md
set_option maxRecDepth 4000 in
theorem w_Mod_runsOutput_47 {g : GG} {Q : QT} {h : Hp} {kc ks : Nat} (hst : (gl g).stackTraces = false) {A : Nat → Nat} {P : Nat → Nat → Int32} (hP : ∀ e, ModAt g A P (va_up h (A 0) e)) (hw : wfM P) (b : Nat) (k : Nat) (hb : b + 600 ≤ 18060) (hkk : k < 10)  (c : Nat → Int32) (md : Int32) (hk : Q (.inl none) (va_up h (A 0) (some (aI g 18060 (f_Mod_runsOutput_47 P b k c md))))) : PW g M_Mod_runsOutput 1 kc ks Q 47 [.ref (A 100), .int (nI (b)), .int (nI (k)), .int (nI (b + 8 * k)), .int (md), .retAddr 0, .retAddr 0, .retAddr 0, .retAddr 0] [] (va_up h (A 0) (some (aI g 18060 (c)))) := by
  have hz0 := hw.blk.2
  have hz1 := hw.lnk.2
  have hz2 := hw.dvs.2
  refine pw_iload e_Mod_runsOutput_47 rfl ?_
  refine pw_iconst (v := nI 1) e_Mod_runsOutput_49 (by decide) ?_
  refine pw_icmp_ne (tgt := 69) e_Mod_runsOutput_50 (by decide) (fun (H1 : ¬ md = 1) => ?_) (fun (H1 : md = 1) => ?_)
  · refine w_Mod_runsOutput_69 hst hP hw b k hb hkk c md ?_
    rw [f_Mod_runsOutput_47, if_neg H1] at hk
    exact hk
  · refine pw_aload_n e_Mod_runsOutput_53 rfl ?_
    refine pw_getf e_Mod_runsOutput_54 fl_Mod_9 (hP _).o rfl ?_
    refine pw_iload_n e_Mod_runsOutput_57 rfl ?_
    refine pw_iconst (v := nI 2) e_Mod_runsOutput_58 (by decide) ?_
    refine pw_iaddN e_Mod_runsOutput_59 ?_
    refine pw_aload_n e_Mod_runsOutput_60 rfl ?_
    refine pw_getf e_Mod_runsOutput_61 fl_Mod_9 (hP _).o rfl ?_
    refine pw_iload_n e_Mod_runsOutput_64 rfl ?_
    refine pw_iconst (v := nI 3) e_Mod_runsOutput_65 (by decide) ?_
    refine pw_iaddN e_Mod_runsOutput_66 ?_
    refine pw_ialdN e_Mod_runsOutput_67 up_same (by omega) (by decide) ?_
    refine pw_iastU e_Mod_runsOutput_68 (by omega) (by decide) ?_
    refine w_Mod_runsOutput_69 hst hP hw b k hb hkk (upd c ((b + 8 * k) + 2) (c ((b + 8 * k) + 3))) md ?_
    rw [f_Mod_runsOutput_47, if_pos H1] at hk
    exact hk
def f_Mod_runsOutput (P : Nat → Nat → Int32) (b : Nat) (k : Nat) (c : Nat → Int32) : Nat → Int32 :=
  if (c ((b + 8 * k) + 1)) = 3 then f_Mod_runsOutput_47 P b k (upd c ((b + 8 * k) + 2) (c ((b + 70 + 10 * lkP P k 2) + 0))) (c ((b + 8 * k) + 1)) else f_Mod_runsOutput_47 P b k c (c ((b + 8 * k) + 1))
set_option maxRecDepth 4000 in
theorem w_Mod_runsOutput_0 {g : GG} {Q : QT} {h : Hp} {kc ks : Nat} (hst : (gl g).stackTraces = false) {A : Nat → Nat} {P : Nat → Nat → Int32} (hP : ∀ e, ModAt g A P (va_up h (A 0) e)) (hw : wfM P) (b : Nat) (k : Nat) (hb : b + 600 ≤ 18060) (hkk : k < 10)  (c : Nat → Int32) (hk : Q (.inl none) (va_up h (A 0) (some (aI g 18060 (f_Mod_runsOutput P b k c))))) : PW g M_Mod_runsOutput 1 kc ks Q 0 [.ref (A 100), .int (nI (b)), .int (nI (k)), .retAddr 0, .retAddr 0, .retAddr 0, .retAddr 0, .retAddr 0, .retAddr 0] [] (va_up h (A 0) (some (aI g 18060 (c)))) := by
  have hz0 := hw.blk.2
  have hz1 := hw.lnk.2
  have hz2 := hw.dvs.2
  refine pw_iload_n e_Mod_runsOutput_0 rfl ?_
  refine pw_iload_n e_Mod_runsOutput_1 rfl ?_
  refine pw_detS (As := [.int (nI (b)), .int (nI (k))]) e_Mod_runsOutput_2 li_Mod_193 (q_at hst b k) rfl (by decide) (Nat.le_of_ble_eq_true rfl) rfl ?_
  refine pw_istore_n (ls2 := [_, _, _, _, _, _, _, _, _]) e_Mod_runsOutput_5 (by decide) rfl ?_
  refine pw_aload_n e_Mod_runsOutput_6 rfl ?_
  refine pw_getf e_Mod_runsOutput_7 fl_Mod_9 (hP _).o rfl ?_
  refine pw_iload_n e_Mod_runsOutput_10 rfl ?_
  refine pw_iconst (v := nI 1) e_Mod_runsOutput_11 (by decide) ?_
  refine pw_iaddN e_Mod_runsOutput_12 ?_
  refine pw_ialdN e_Mod_runsOutput_13 up_same (by omega) (by decide) ?_
  refine pw_istore (ls2 := [_, _, _, _, _, _, _, _, _]) e_Mod_runsOutput_14 (by decide) rfl ?_
  refine pw_iload e_Mod_runsOutput_16 rfl ?_
  refine pw_iconst (v := nI 3) e_Mod_runsOutput_18 (by decide) ?_
  refine pw_icmp_ne (tgt := 47) e_Mod_runsOutput_19 (by decide) (fun (H1 : ¬ (c ((b + 8 * k) + 1)) = 3) => ?_) (fun (H1 : (c ((b + 8 * k) + 1)) = 3) => ?_)
  · refine w_Mod_runsOutput_47 hst hP hw b k hb hkk c (c ((b + 8 * k) + 1)) ?_
    rw [f_Mod_runsOutput, if_neg H1] at hk
    exact hk
  · refine pw_aload_n e_Mod_runsOutput_22 rfl ?_
    refine pw_getf e_Mod_runsOutput_23 fl_Mod_9 (hP _).o rfl ?_
    refine pw_iload_n e_Mod_runsOutput_26 rfl ?_
    refine pw_iconst (v := nI 2) e_Mod_runsOutput_27 (by decide) ?_
    refine pw_iaddN e_Mod_runsOutput_28 ?_
    refine pw_aload_n e_Mod_runsOutput_29 rfl ?_
    refine pw_getf e_Mod_runsOutput_30 fl_Mod_9 (hP _).o rfl ?_
    refine pw_iload_n e_Mod_runsOutput_33 rfl ?_
    refine pw_aload_n e_Mod_runsOutput_34 rfl ?_
    refine pw_iload_n e_Mod_runsOutput_35 rfl ?_
    refine pw_iconst (v := nI 2) e_Mod_runsOutput_36 (by decide) ?_
    refine pw_detV (As := [.int (nI (k)), .int (nI (2))]) e_Mod_runsOutput_37 li_Mod_196 rfl (hP _).o (q_Mod_linkTo hst (hP _) hw k 2 (by omega) (by omega)) rfl (by decide) (Nat.le_of_ble_eq_true rfl) rfl ?_
    have hb2 := (lk_of hw k 2).2
    refine pw_detS (As := [.int (nI (b)), .int (f_Mod_linkTo P k 2)]) e_Mod_runsOutput_40 li_Mod_199 (q_lkA hst hw b k 2) rfl (by decide) (Nat.le_of_ble_eq_true rfl) rfl ?_
    refine pw_iconst (v := nI 0) e_Mod_runsOutput_43 (by decide) ?_
    refine pw_iaddN e_Mod_runsOutput_44 ?_
    refine pw_ialdN e_Mod_runsOutput_45 up_same (by omega) (by decide) ?_
    refine pw_iastU e_Mod_runsOutput_46 (by omega) (by decide) ?_
    refine w_Mod_runsOutput_47 hst hP hw b k hb hkk (upd c ((b + 8 * k) + 2) (c ((b + 70 + 10 * lkP P k 2) + 0))) (c ((b + 8 * k) + 1)) ?_
    rw [f_Mod_runsOutput, if_pos H1] at hk
    exact hk
theorem q_Mod_runsOutput {g : GG} {h : Hp} (hst : (gl g).stackTraces = false) {A : Nat → Nat} {P : Nat → Nat → Int32} (hP : ∀ e, ModAt g A P (va_up h (A 0) e)) (hw : wfM P) (b : Nat) (k : Nat) (hb : b + 600 ≤ 18060) (hkk : k < 10)  (c : Nat → Int32) (hm : h (A 0) = some (aI g 18060 c)) : PM g M_Mod_runsOutput 1 0 0 [.ref (A 100), .int (nI (b)), .int (nI (k))] h (RetV none (va_up h (A 0) (some (aI g 18060 (f_Mod_runsOutput P b k c))))) := by
  refine PM.of hst (by decide) rfl (fun v hv => ?_) (Nat.le_of_ble_eq_true rfl) ?_
  · simp only [List.mem_cons, List.not_mem_nil, or_false] at hv; rcases hv with rfl | rfl | rfl <;> rfl
  · have hq := w_Mod_runsOutput_0 (g := g) (Q := RetV none (va_up h (A 0) (some (aI g 18060 (f_Mod_runsOutput P b k c))))) (h := h) (kc := 0) (ks := 0) hst hP hw b k hb hkk c ?_
    · rw [up_self hm] at hq; exact hq
    · exact ⟨rfl, rfl⟩

def f_Mod_moved_63 (P : Nat → Nat → Int32) (b : Nat) (k : Nat) (e : Int32) (c : Nat → Int32) (dd : Int32) (li : Int32) : Int32 :=
  if dd ≤ 0 then if 0 ≤ dd then dd else if li = 1 then 0 else dd else if li = 2 then 0 else if 0 ≤ dd then dd else if li = 1 then 0 else dd
set_option maxRecDepth 4000 in
theorem w_Mod_moved_63 {g : GG} {Q : QT} {h : Hp} {kc ks : Nat} (hst : (gl g).stackTraces = false) {A : Nat → Nat} {P : Nat → Nat → Int32} (hP : ∀ e, ModAt g A P (va_up h (A 0) e)) (hw : wfM P) (b : Nat) (k : Nat) (e : Int32) (hb : b + 600 ≤ 18060) (hkk : k < 10)  (c : Nat → Int32) (dd : Int32) (li : Int32) (hk : Q (.inl (some (.int (f_Mod_moved_63 P b k e c dd li)))) (va_up h (A 0) (some (aI g 18060 (c))))) : PW g M_Mod_moved 1 kc ks Q 63 [.ref (A 100), .int (nI (b)), .int (nI (k)), .int (e), .int (f_Mod_setFrom P k), .int (dd), .int (li)] [] (va_up h (A 0) (some (aI g 18060 (c)))) := by
  have hz0 := hw.blk.2
  have hz1 := hw.lnk.2
  have hz2 := hw.dvs.2
  refine pw_iload e_Mod_moved_63 rfl ?_
  refine pw_if_le (tgt := 74) e_Mod_moved_65 (by decide) (fun (H1 : dd ≤ 0) => ?_) (fun (H1 : ¬ dd ≤ 0) => ?_)
  · refine pw_iload e_Mod_moved_74 rfl ?_
    refine pw_if_ge (tgt := 89) e_Mod_moved_76 (by decide) (fun (H2 : 0 ≤ dd) => ?_) (fun (H2 : ¬ 0 ≤ dd) => ?_)
    · refine pw_iload e_Mod_moved_89 rfl ?_
      refine pw_iret e_Mod_moved_91 rfl rfl ?_
      rw [f_Mod_moved_63, if_pos H1, if_pos H2] at hk
      exact hk
    · refine pw_iload e_Mod_moved_79 rfl ?_
      refine pw_iconst (v := nI 1) e_Mod_moved_81 (by decide) ?_
      refine pw_icmp_ne (tgt := 89) e_Mod_moved_82 (by decide) (fun (H3 : ¬ li = 1) => ?_) (fun (H3 : li = 1) => ?_)
      · refine pw_iload e_Mod_moved_89 rfl ?_
        refine pw_iret e_Mod_moved_91 rfl rfl ?_
        rw [f_Mod_moved_63, if_pos H1, if_neg H2, if_neg H3] at hk
        exact hk
      · refine pw_iconst (v := nI 0) e_Mod_moved_85 (by decide) ?_
        refine pw_goto (tgt := 91) e_Mod_moved_86 (by decide) ?_
        refine pw_iret e_Mod_moved_91 rfl rfl ?_
        rw [f_Mod_moved_63, if_pos H1, if_neg H2, if_pos H3] at hk
        exact hk
  · refine pw_iload e_Mod_moved_68 rfl ?_
    refine pw_iconst (v := nI 2) e_Mod_moved_70 (by decide) ?_
    refine pw_icmp_eq (tgt := 85) e_Mod_moved_71 (by decide) (fun (H4 : li = 2) => ?_) (fun (H4 : ¬ li = 2) => ?_)
    · refine pw_iconst (v := nI 0) e_Mod_moved_85 (by decide) ?_
      refine pw_goto (tgt := 91) e_Mod_moved_86 (by decide) ?_
      refine pw_iret e_Mod_moved_91 rfl rfl ?_
      rw [f_Mod_moved_63, if_neg H1, if_pos H4] at hk
      exact hk
    · refine pw_iload e_Mod_moved_74 rfl ?_
      refine pw_if_ge (tgt := 89) e_Mod_moved_76 (by decide) (fun (H5 : 0 ≤ dd) => ?_) (fun (H5 : ¬ 0 ≤ dd) => ?_)
      · refine pw_iload e_Mod_moved_89 rfl ?_
        refine pw_iret e_Mod_moved_91 rfl rfl ?_
        rw [f_Mod_moved_63, if_neg H1, if_neg H4, if_pos H5] at hk
        exact hk
      · refine pw_iload e_Mod_moved_79 rfl ?_
        refine pw_iconst (v := nI 1) e_Mod_moved_81 (by decide) ?_
        refine pw_icmp_ne (tgt := 89) e_Mod_moved_82 (by decide) (fun (H6 : ¬ li = 1) => ?_) (fun (H6 : li = 1) => ?_)
        · refine pw_iload e_Mod_moved_89 rfl ?_
          refine pw_iret e_Mod_moved_91 rfl rfl ?_
          rw [f_Mod_moved_63, if_neg H1, if_neg H4, if_neg H5, if_neg H6] at hk
          exact hk
        · refine pw_iconst (v := nI 0) e_Mod_moved_85 (by decide) ?_
          refine pw_goto (tgt := 91) e_Mod_moved_86 (by decide) ?_
          refine pw_iret e_Mod_moved_91 rfl rfl ?_
          rw [f_Mod_moved_63, if_neg H1, if_neg H4, if_neg H5, if_pos H6] at hk
          exact hk
def f_Mod_moved (P : Nat → Nat → Int32) (b : Nat) (k : Nat) (e : Int32) (c : Nat → Int32) : Int32 :=
  if (f_Mod_setFrom P k) = ((-1)) then f_Mod_moved_63 P b k e c ((((f_Mod_gainOf P k) * (e - (c ((b + 8 * k) + 4)))) / 100) + ((((P 5) k) * e) / 100)) 0 else f_Mod_moved_63 P b k e c ((((f_Mod_gainOf P k) * (e - (c ((b + 8 * k) + 4)))) / 100) + ((((P 5) k) * e) / 100)) (c ((b + 70 + 10 * sfP P k) + 7))
set_option maxRecDepth 4000 in
theorem w_Mod_moved_0 {g : GG} {Q : QT} {h : Hp} {kc ks : Nat} (hst : (gl g).stackTraces = false) {A : Nat → Nat} {P : Nat → Nat → Int32} (hP : ∀ e, ModAt g A P (va_up h (A 0) e)) (hw : wfM P) (b : Nat) (k : Nat) (e : Int32) (hb : b + 600 ≤ 18060) (hkk : k < 10)  (c : Nat → Int32) (hk : Q (.inl (some (.int (f_Mod_moved P b k e c)))) (va_up h (A 0) (some (aI g 18060 (c))))) : PW g M_Mod_moved 1 kc ks Q 0 [.ref (A 100), .int (nI (b)), .int (nI (k)), .int (e), .int (f_Mod_setFrom P k), .retAddr 0, .retAddr 0] [] (va_up h (A 0) (some (aI g 18060 (c)))) := by
  have hz0 := hw.blk.2
  have hz1 := hw.lnk.2
  have hz2 := hw.dvs.2
  refine pw_aload_n e_Mod_moved_0 rfl ?_
  refine pw_iload_n e_Mod_moved_1 rfl ?_
  refine pw_detV (As := [.int (nI (k))]) e_Mod_moved_2 li_Mod_234 rfl (hP _).o (q_Mod_gainOf hst (hP _) hw k (by omega)) rfl (by decide) (Nat.le_of_ble_eq_true rfl) rfl ?_
  refine pw_iload_n e_Mod_moved_5 rfl ?_
  refine pw_aload_n e_Mod_moved_6 rfl ?_
  refine pw_getf e_Mod_moved_7 fl_Mod_9 (hP _).o rfl ?_
  refine pw_iload_n e_Mod_moved_10 rfl ?_
  refine pw_iload_n e_Mod_moved_11 rfl ?_
  refine pw_detS (As := [.int (nI (b)), .int (nI (k))]) e_Mod_moved_12 li_Mod_193 (q_at hst b k) rfl (by decide) (Nat.le_of_ble_eq_true rfl) rfl ?_
  refine pw_iconst (v := nI 4) e_Mod_moved_15 (by decide) ?_
  refine pw_iaddN e_Mod_moved_16 ?_
  refine pw_ialdN e_Mod_moved_17 up_same (by omega) (by decide) ?_
  refine pw_isub e_Mod_moved_18 ?_
  refine pw_imul e_Mod_moved_19 ?_
  refine pw_bipush (v := nI 100) e_Mod_moved_20 (by decide) ?_
  refine pw_idiv e_Mod_moved_22 (by decide) ?_
  refine pw_aload_n e_Mod_moved_23 rfl ?_
  refine pw_getf e_Mod_moved_24 fl_Mod_25 (hP _).o rfl ?_
  refine pw_iload_n e_Mod_moved_27 rfl ?_
  refine pw_ialdN e_Mod_moved_28 (hP _).a5 (by omega) (by decide) ?_
  refine pw_iload_n e_Mod_moved_29 rfl ?_
  refine pw_imul e_Mod_moved_30 ?_
  refine pw_bipush (v := nI 100) e_Mod_moved_31 (by decide) ?_
  refine pw_idiv e_Mod_moved_33 (by decide) ?_
  refine pw_iadd e_Mod_moved_34 ?_
  refine pw_istore (ls2 := [_, _, _, _, _, _, _]) e_Mod_moved_35 (by decide) rfl ?_
  refine pw_iload e_Mod_moved_37 rfl ?_
  refine pw_iconst (v := (-1)) e_Mod_moved_39 (by decide) ?_
  refine pw_icmp_ne (tgt := 47) e_Mod_moved_40 (by decide) (fun (H1 : ¬ (f_Mod_setFrom P k) = ((-1))) => ?_) (fun (H1 : (f_Mod_setFrom P k) = ((-1))) => ?_)
  · refine pw_aload_n e_Mod_moved_47 rfl ?_
    refine pw_getf e_Mod_moved_48 fl_Mod_9 (hP _).o rfl ?_
    refine pw_iload_n e_Mod_moved_51 rfl ?_
    refine pw_iload e_Mod_moved_52 rfl ?_
    have hb2 := (sf_of hw k).2
    refine pw_detS (As := [.int (nI (b)), .int (f_Mod_setFrom P k)]) e_Mod_moved_54 li_Mod_199 (q_sfA hst hw b k) rfl (by decide) (Nat.le_of_ble_eq_true rfl) rfl ?_
    refine pw_bipush (v := nI 7) e_Mod_moved_57 (by decide) ?_
    refine pw_iaddN e_Mod_moved_59 ?_
    refine pw_ialdN e_Mod_moved_60 up_same (by omega) (by decide) ?_
    refine pw_istore (ls2 := [_, _, _, _, _, _, _]) e_Mod_moved_61 (by decide) rfl ?_
    refine w_Mod_moved_63 hst hP hw b k e hb hkk c ((((f_Mod_gainOf P k) * (e - (c ((b + 8 * k) + 4)))) / 100) + ((((P 5) k) * e) / 100)) (c ((b + 70 + 10 * sfP P k) + 7)) ?_
    rw [f_Mod_moved, if_neg H1] at hk
    exact hk
  · refine pw_iconst (v := nI 0) e_Mod_moved_43 (by decide) ?_
    refine pw_goto (tgt := 61) e_Mod_moved_44 (by decide) ?_
    refine pw_istore (ls2 := [_, _, _, _, _, _, _]) e_Mod_moved_61 (by decide) rfl ?_
    refine w_Mod_moved_63 hst hP hw b k e hb hkk c ((((f_Mod_gainOf P k) * (e - (c ((b + 8 * k) + 4)))) / 100) + ((((P 5) k) * e) / 100)) 0 ?_
    rw [f_Mod_moved, if_pos H1] at hk
    exact hk
theorem q_Mod_moved {g : GG} {h : Hp} (hst : (gl g).stackTraces = false) {A : Nat → Nat} {P : Nat → Nat → Int32} (hP : ∀ e, ModAt g A P (va_up h (A 0) e)) (hw : wfM P) (b : Nat) (k : Nat) (e : Int32) (hb : b + 600 ≤ 18060) (hkk : k < 10)  (c : Nat → Int32) (hm : h (A 0) = some (aI g 18060 c)) : PM g M_Mod_moved 1 0 0 [.ref (A 100), .int (nI (b)), .int (nI (k)), .int (e), .int (f_Mod_setFrom P k)] h (RetV (some (.int (f_Mod_moved P b k e c))) h) := by
  refine PM.of hst (by decide) rfl (fun v hv => ?_) (Nat.le_of_ble_eq_true rfl) ?_
  · simp only [List.mem_cons, List.not_mem_nil, or_false] at hv; rcases hv with rfl | rfl | rfl | rfl | rfl <;> rfl
  · have hq := w_Mod_moved_0 (g := g) (Q := RetV (some (.int (f_Mod_moved P b k e c))) h) (h := h) (kc := 0) (ks := 0) hst hP hw b k e hb hkk c ?_
    · rw [up_self hm] at hq; exact hq
    · exact ⟨rfl, up_self hm⟩

def f_Mod_runsPid_326 (P : Nat → Nat → Int32) (b : Nat) (k : Nat) (c : Nat → Int32) (bk : Int32) (li : Int32) : Nat → Int32 :=
  if bk = 0 then upd c ((b + 8 * k) + 6) li else if (c ((b + 70 + 10 * sfP P k) + 7)) = 0 then upd c ((b + 8 * k) + 6) li else upd c ((b + 8 * k) + 6) (c ((b + 70 + 10 * sfP P k) + 7))
set_option maxRecDepth 4000 in
theorem w_Mod_runsPid_326 {g : GG} {Q : QT} {h : Hp} {kc ks : Nat} (hst : (gl g).stackTraces = false) {A : Nat → Nat} {P : Nat → Nat → Int32} (hP : ∀ e, ModAt g A P (va_up h (A 0) e)) (hw : wfM P) (b : Nat) (k : Nat) (hb : b + 600 ≤ 18060) (hkk : k < 10)  (c : Nat → Int32) (bk : Int32) (li : Int32) (hk : Q (.inl none) (va_up h (A 0) (some (aI g 18060 (f_Mod_runsPid_326 P b k c bk li))))) : PW g M_Mod_runsPid 2 kc ks Q 326 [.ref (A 100), .int (nI (b)), .int (nI (k)), .int (nI (b + 8 * k)), .retAddr 0, .retAddr 0, .int (f_Mod_setFrom P k), .retAddr 0, .int (bk), .retAddr 0, .int (li)] [] (va_up h (A 0) (some (aI g 18060 (c)))) := by
  have hz0 := hw.blk.2
  have hz1 := hw.lnk.2
  have hz2 := hw.dvs.2
  refine pw_aload_n e_Mod_runsPid_326 rfl ?_
  refine pw_getf e_Mod_runsPid_327 fl_Mod_9 (hP _).o rfl ?_
  refine pw_iload_n e_Mod_runsPid_330 rfl ?_
  refine pw_bipush (v := nI 6) e_Mod_runsPid_331 (by decide) ?_
  refine pw_iaddN e_Mod_runsPid_333 ?_
  refine pw_iload e_Mod_runsPid_334 rfl ?_
  refine pw_if_eq (tgt := 373) e_Mod_runsPid_336 (by decide) (fun (H1 : bk = 0) => ?_) (fun (H1 : ¬ bk = 0) => ?_)
  · refine pw_iload e_Mod_runsPid_373 rfl ?_
    refine pw_iastU e_Mod_runsPid_375 (by omega) (by decide) ?_
    refine pw_vret e_Mod_runsPid_376 rfl ?_
    rw [f_Mod_runsPid_326, if_pos H1] at hk
    exact hk
  · refine pw_aload_n e_Mod_runsPid_339 rfl ?_
    refine pw_getf e_Mod_runsPid_340 fl_Mod_9 (hP _).o rfl ?_
    refine pw_iload_n e_Mod_runsPid_343 rfl ?_
    refine pw_iload e_Mod_runsPid_344 rfl ?_
    have hb2 := (sf_of hw k).2
    refine pw_detS (As := [.int (nI (b)), .int (f_Mod_setFrom P k)]) e_Mod_runsPid_346 li_Mod_199 (q_sfA hst hw b k) rfl (by decide) (Nat.le_of_ble_eq_true rfl) rfl ?_
    refine pw_bipush (v := nI 7) e_Mod_runsPid_349 (by decide) ?_
    refine pw_iaddN e_Mod_runsPid_351 ?_
    refine pw_ialdN e_Mod_runsPid_352 up_same (by omega) (by decide) ?_
    refine pw_if_eq (tgt := 373) e_Mod_runsPid_353 (by decide) (fun (H3 : (c ((b + 70 + 10 * sfP P k) + 7)) = 0) => ?_) (fun (H3 : ¬ (c ((b + 70 + 10 * sfP P k) + 7)) = 0) => ?_)
    · refine pw_iload e_Mod_runsPid_373 rfl ?_
      refine pw_iastU e_Mod_runsPid_375 (by omega) (by decide) ?_
      refine pw_vret e_Mod_runsPid_376 rfl ?_
      rw [f_Mod_runsPid_326, if_neg H1, if_pos H3] at hk
      exact hk
    · refine pw_aload_n e_Mod_runsPid_356 rfl ?_
      refine pw_getf e_Mod_runsPid_357 fl_Mod_9 (hP _).o rfl ?_
      refine pw_iload_n e_Mod_runsPid_360 rfl ?_
      refine pw_iload e_Mod_runsPid_361 rfl ?_
      have hb4 := (sf_of hw k).2
      refine pw_detS (As := [.int (nI (b)), .int (f_Mod_setFrom P k)]) e_Mod_runsPid_363 li_Mod_199 (q_sfA hst hw b k) rfl (by decide) (Nat.le_of_ble_eq_true rfl) rfl ?_
      refine pw_bipush (v := nI 7) e_Mod_runsPid_366 (by decide) ?_
      refine pw_iaddN e_Mod_runsPid_368 ?_
      refine pw_ialdN e_Mod_runsPid_369 up_same (by omega) (by decide) ?_
      refine pw_goto (tgt := 375) e_Mod_runsPid_370 (by decide) ?_
      refine pw_iastU e_Mod_runsPid_375 (by omega) (by decide) ?_
      refine pw_vret e_Mod_runsPid_376 rfl ?_
      rw [f_Mod_runsPid_326, if_neg H1, if_neg H3] at hk
      exact hk
def f_Mod_runsPid_290 (P : Nat → Nat → Int32) (b : Nat) (k : Nat) (c : Nat → Int32) (bk : Int32) : Nat → Int32 :=
  if (c ((b + 8 * k) + 3)) = 1000 then f_Mod_runsPid_326 P b k c bk 2 else if (c ((b + 8 * k) + 3)) = 0 then f_Mod_runsPid_326 P b k c bk 1 else f_Mod_runsPid_326 P b k c bk 0
set_option maxRecDepth 4000 in
theorem w_Mod_runsPid_290 {g : GG} {Q : QT} {h : Hp} {kc ks : Nat} (hst : (gl g).stackTraces = false) {A : Nat → Nat} {P : Nat → Nat → Int32} (hP : ∀ e, ModAt g A P (va_up h (A 0) e)) (hw : wfM P) (b : Nat) (k : Nat) (hb : b + 600 ≤ 18060) (hkk : k < 10)  (c : Nat → Int32) (bk : Int32) (hk : Q (.inl none) (va_up h (A 0) (some (aI g 18060 (f_Mod_runsPid_290 P b k c bk))))) : PW g M_Mod_runsPid 2 kc ks Q 290 [.ref (A 100), .int (nI (b)), .int (nI (k)), .int (nI (b + 8 * k)), .retAddr 0, .retAddr 0, .int (f_Mod_setFrom P k), .retAddr 0, .int (bk), .retAddr 0, .retAddr 0] [] (va_up h (A 0) (some (aI g 18060 (c)))) := by
  have hz0 := hw.blk.2
  have hz1 := hw.lnk.2
  have hz2 := hw.dvs.2
  refine pw_aload_n e_Mod_runsPid_290 rfl ?_
  refine pw_getf e_Mod_runsPid_291 fl_Mod_9 (hP _).o rfl ?_
  refine pw_iload_n e_Mod_runsPid_294 rfl ?_
  refine pw_iconst (v := nI 3) e_Mod_runsPid_295 (by decide) ?_
  refine pw_iaddN e_Mod_runsPid_296 ?_
  refine pw_ialdN e_Mod_runsPid_297 up_same (by omega) (by decide) ?_
  refine pw_sipush (v := nI 1000) e_Mod_runsPid_298 (by decide) ?_
  refine pw_icmp_ne (tgt := 308) e_Mod_runsPid_301 (by decide) (fun (H1 : ¬ (c ((b + 8 * k) + 3)) = 1000) => ?_) (fun (H1 : (c ((b + 8 * k) + 3)) = 1000) => ?_)
  · refine pw_aload_n e_Mod_runsPid_308 rfl ?_
    refine pw_getf e_Mod_runsPid_309 fl_Mod_9 (hP _).o rfl ?_
    refine pw_iload_n e_Mod_runsPid_312 rfl ?_
    refine pw_iconst (v := nI 3) e_Mod_runsPid_313 (by decide) ?_
    refine pw_iaddN e_Mod_runsPid_314 ?_
    refine pw_ialdN e_Mod_runsPid_315 up_same (by omega) (by decide) ?_
    refine pw_if_ne (tgt := 323) e_Mod_runsPid_316 (by decide) (fun (H2 : ¬ (c ((b + 8 * k) + 3)) = 0) => ?_) (fun (H2 : (c ((b + 8 * k) + 3)) = 0) => ?_)
    · refine pw_iconst (v := nI 0) e_Mod_runsPid_323 (by decide) ?_
      refine pw_istore (ls2 := [_, _, _, _, _, _, _, _, _, _, _]) e_Mod_runsPid_324 (by decide) rfl ?_
      refine w_Mod_runsPid_326 hst hP hw b k hb hkk c bk 0 ?_
      rw [f_Mod_runsPid_290, if_neg H1, if_neg H2] at hk
      exact hk
    · refine pw_iconst (v := nI 1) e_Mod_runsPid_319 (by decide) ?_
      refine pw_goto (tgt := 324) e_Mod_runsPid_320 (by decide) ?_
      refine pw_istore (ls2 := [_, _, _, _, _, _, _, _, _, _, _]) e_Mod_runsPid_324 (by decide) rfl ?_
      refine w_Mod_runsPid_326 hst hP hw b k hb hkk c bk 1 ?_
      rw [f_Mod_runsPid_290, if_neg H1, if_pos H2] at hk
      exact hk
  · refine pw_iconst (v := nI 2) e_Mod_runsPid_304 (by decide) ?_
    refine pw_goto (tgt := 324) e_Mod_runsPid_305 (by decide) ?_
    refine pw_istore (ls2 := [_, _, _, _, _, _, _, _, _, _, _]) e_Mod_runsPid_324 (by decide) rfl ?_
    refine w_Mod_runsPid_326 hst hP hw b k hb hkk c bk 2 ?_
    rw [f_Mod_runsPid_290, if_pos H1] at hk
    exact hk
def f_Mod_runsPid_272 (P : Nat → Nat → Int32) (b : Nat) (k : Nat) (c : Nat → Int32) (md : Int32) (bk : Int32) : Nat → Int32 :=
  if md = 0 then f_Mod_runsPid_290 P b k (upd c ((b + 8 * k) + 5) 0) bk else f_Mod_runsPid_290 P b k (upd c ((b + 8 * k) + 5) 1) bk
set_option maxRecDepth 4000 in
theorem w_Mod_runsPid_272 {g : GG} {Q : QT} {h : Hp} {kc ks : Nat} (hst : (gl g).stackTraces = false) {A : Nat → Nat} {P : Nat → Nat → Int32} (hP : ∀ e, ModAt g A P (va_up h (A 0) e)) (hw : wfM P) (b : Nat) (k : Nat) (hb : b + 600 ≤ 18060) (hkk : k < 10)  (c : Nat → Int32) (md : Int32) (bk : Int32) (hk : Q (.inl none) (va_up h (A 0) (some (aI g 18060 (f_Mod_runsPid_272 P b k c md bk))))) : PW g M_Mod_runsPid 2 kc ks Q 272 [.ref (A 100), .int (nI (b)), .int (nI (k)), .int (nI (b + 8 * k)), .int (md), .retAddr 0, .int (f_Mod_setFrom P k), .retAddr 0, .int (bk), .retAddr 0, .retAddr 0] [] (va_up h (A 0) (some (aI g 18060 (c)))) := by
  have hz0 := hw.blk.2
  have hz1 := hw.lnk.2
  have hz2 := hw.dvs.2
  refine pw_aload_n e_Mod_runsPid_272 rfl ?_
  refine pw_getf e_Mod_runsPid_273 fl_Mod_9 (hP _).o rfl ?_
  refine pw_iload_n e_Mod_runsPid_276 rfl ?_
  refine pw_iconst (v := nI 5) e_Mod_runsPid_277 (by decide) ?_
  refine pw_iaddN e_Mod_runsPid_278 ?_
  refine pw_iload e_Mod_runsPid_279 rfl ?_
  refine pw_if_ne (tgt := 288) e_Mod_runsPid_281 (by decide) (fun (H1 : ¬ md = 0) => ?_) (fun (H1 : md = 0) => ?_)
  · refine pw_iconst (v := nI 1) e_Mod_runsPid_288 (by decide) ?_
    refine pw_iastU e_Mod_runsPid_289 (by omega) (by decide) ?_
    refine pw_fgt (ls' := [.ref (A 100), .int (nI (b)), .int (nI (k)), .int (nI (b + 8 * k)), .retAddr 0, .retAddr 0, .int (f_Mod_setFrom P k), .retAddr 0, .int (bk), .retAddr 0, .retAddr 0]) ⟨Or.inr rfl, Or.inr rfl, Or.inr rfl, Or.inr rfl, Or.inl rfl, Or.inr rfl, Or.inr rfl, Or.inr rfl, Or.inr rfl, Or.inr rfl, Or.inr rfl, trivial⟩ ?_
    refine w_Mod_runsPid_290 hst hP hw b k hb hkk (upd c ((b + 8 * k) + 5) 1) bk ?_
    rw [f_Mod_runsPid_272, if_neg H1] at hk
    exact hk
  · refine pw_iconst (v := nI 0) e_Mod_runsPid_284 (by decide) ?_
    refine pw_goto (tgt := 289) e_Mod_runsPid_285 (by decide) ?_
    refine pw_iastU e_Mod_runsPid_289 (by omega) (by decide) ?_
    refine pw_fgt (ls' := [.ref (A 100), .int (nI (b)), .int (nI (k)), .int (nI (b + 8 * k)), .retAddr 0, .retAddr 0, .int (f_Mod_setFrom P k), .retAddr 0, .int (bk), .retAddr 0, .retAddr 0]) ⟨Or.inr rfl, Or.inr rfl, Or.inr rfl, Or.inr rfl, Or.inl rfl, Or.inr rfl, Or.inr rfl, Or.inr rfl, Or.inr rfl, Or.inr rfl, Or.inr rfl, trivial⟩ ?_
    refine w_Mod_runsPid_290 hst hP hw b k hb hkk (upd c ((b + 8 * k) + 5) 0) bk ?_
    rw [f_Mod_runsPid_272, if_pos H1] at hk
    exact hk
def f_Mod_runsPid_257 (P : Nat → Nat → Int32) (b : Nat) (k : Nat) (c : Nat → Int32) (md : Int32) (er : Int32) (bk : Int32) : Nat → Int32 :=
  if md = 0 then f_Mod_runsPid_272 P b k c md bk else f_Mod_runsPid_272 P b k (upd c ((b + 8 * k) + 4) er) md bk
set_option maxRecDepth 4000 in
theorem w_Mod_runsPid_257 {g : GG} {Q : QT} {h : Hp} {kc ks : Nat} (hst : (gl g).stackTraces = false) {A : Nat → Nat} {P : Nat → Nat → Int32} (hP : ∀ e, ModAt g A P (va_up h (A 0) e)) (hw : wfM P) (b : Nat) (k : Nat) (hb : b + 600 ≤ 18060) (hkk : k < 10)  (c : Nat → Int32) (md : Int32) (er : Int32) (bk : Int32) (hk : Q (.inl none) (va_up h (A 0) (some (aI g 18060 (f_Mod_runsPid_257 P b k c md er bk))))) : PW g M_Mod_runsPid 2 kc ks Q 257 [.ref (A 100), .int (nI (b)), .int (nI (k)), .int (nI (b + 8 * k)), .int (md), .retAddr 0, .int (f_Mod_setFrom P k), .int (er), .int (bk), .retAddr 0, .retAddr 0] [] (va_up h (A 0) (some (aI g 18060 (c)))) := by
  have hz0 := hw.blk.2
  have hz1 := hw.lnk.2
  have hz2 := hw.dvs.2
  refine pw_iload e_Mod_runsPid_257 rfl ?_
  refine pw_if_eq (tgt := 272) e_Mod_runsPid_259 (by decide) (fun (H1 : md = 0) => ?_) (fun (H1 : ¬ md = 0) => ?_)
  · refine pw_fgt (ls' := [.ref (A 100), .int (nI (b)), .int (nI (k)), .int (nI (b + 8 * k)), .int (md), .retAddr 0, .int (f_Mod_setFrom P k), .retAddr 0, .int (bk), .retAddr 0, .retAddr 0]) ⟨Or.inr rfl, Or.inr rfl, Or.inr rfl, Or.inr rfl, Or.inr rfl, Or.inr rfl, Or.inr rfl, Or.inl rfl, Or.inr rfl, Or.inr rfl, Or.inr rfl, trivial⟩ ?_
    refine w_Mod_runsPid_272 hst hP hw b k hb hkk c md bk ?_
    rw [f_Mod_runsPid_257, if_pos H1] at hk
    exact hk
  · refine pw_aload_n e_Mod_runsPid_262 rfl ?_
    refine pw_getf e_Mod_runsPid_263 fl_Mod_9 (hP _).o rfl ?_
    refine pw_iload_n e_Mod_runsPid_266 rfl ?_
    refine pw_iconst (v := nI 4) e_Mod_runsPid_267 (by decide) ?_
    refine pw_iaddN e_Mod_runsPid_268 ?_
    refine pw_iload e_Mod_runsPid_269 rfl ?_
    refine pw_iastU e_Mod_runsPid_271 (by omega) (by decide) ?_
    refine pw_fgt (ls' := [.ref (A 100), .int (nI (b)), .int (nI (k)), .int (nI (b + 8 * k)), .int (md), .retAddr 0, .int (f_Mod_setFrom P k), .retAddr 0, .int (bk), .retAddr 0, .retAddr 0]) ⟨Or.inr rfl, Or.inr rfl, Or.inr rfl, Or.inr rfl, Or.inr rfl, Or.inr rfl, Or.inr rfl, Or.inl rfl, Or.inr rfl, Or.inr rfl, Or.inr rfl, trivial⟩ ?_
    refine w_Mod_runsPid_272 hst hP hw b k hb hkk (upd c ((b + 8 * k) + 4) er) md bk ?_
    rw [f_Mod_runsPid_257, if_neg H1] at hk
    exact hk
def f_Mod_runsPid_181 (P : Nat → Nat → Int32) (b : Nat) (k : Nat) (c : Nat → Int32) (md : Int32) (er : Int32) (bk : Int32) (fo : Int32) : Nat → Int32 :=
  if fo = 0 then if md ≤ 1 then f_Mod_runsPid_257 P b k c md er bk else if (f_Mod_setFrom P k) = ((-1)) then f_Mod_runsPid_257 P b k (upd c ((b + 8 * k) + 3) (f_Mod_put ((c ((b + 8 * k) + 3)) + (f_Mod_moved P b k er c)))) md er bk else if bk = 0 then f_Mod_runsPid_257 P b k c md er bk else f_Mod_runsPid_257 P b k (upd c ((b + 8 * k) + 3) (f_Mod_put ((c ((b + 8 * k) + 3)) + (f_Mod_moved P b k er c)))) md er bk else f_Mod_runsPid_257 P b k (upd c ((b + 8 * k) + 3) (c ((b + 70 + 10 * sfP P k) + 5))) md er bk
set_option maxRecDepth 4000 in
theorem w_Mod_runsPid_181 {g : GG} {Q : QT} {h : Hp} {kc ks : Nat} (hst : (gl g).stackTraces = false) {A : Nat → Nat} {P : Nat → Nat → Int32} (hP : ∀ e, ModAt g A P (va_up h (A 0) e)) (hw : wfM P) (b : Nat) (k : Nat) (hb : b + 600 ≤ 18060) (hkk : k < 10)  (c : Nat → Int32) (md : Int32) (er : Int32) (bk : Int32) (fo : Int32) (hk : Q (.inl none) (va_up h (A 0) (some (aI g 18060 (f_Mod_runsPid_181 P b k c md er bk fo))))) : PW g M_Mod_runsPid 2 kc ks Q 181 [.ref (A 100), .int (nI (b)), .int (nI (k)), .int (nI (b + 8 * k)), .int (md), .retAddr 0, .int (f_Mod_setFrom P k), .int (er), .int (bk), .int (fo), .retAddr 0] [] (va_up h (A 0) (some (aI g 18060 (c)))) := by
  have hz0 := hw.blk.2
  have hz1 := hw.lnk.2
  have hz2 := hw.dvs.2
  refine pw_iload e_Mod_runsPid_181 rfl ?_
  refine pw_if_eq (tgt := 210) e_Mod_runsPid_183 (by decide) (fun (H1 : fo = 0) => ?_) (fun (H1 : ¬ fo = 0) => ?_)
  · refine pw_iload e_Mod_runsPid_210 rfl ?_
    refine pw_iconst (v := nI 1) e_Mod_runsPid_212 (by decide) ?_
    refine pw_icmp_le (tgt := 257) e_Mod_runsPid_213 (by decide) (fun (H2 : md ≤ 1) => ?_) (fun (H2 : ¬ md ≤ 1) => ?_)
    · refine pw_fgt (ls' := [.ref (A 100), .int (nI (b)), .int (nI (k)), .int (nI (b + 8 * k)), .int (md), .retAddr 0, .int (f_Mod_setFrom P k), .int (er), .int (bk), .retAddr 0, .retAddr 0]) ⟨Or.inr rfl, Or.inr rfl, Or.inr rfl, Or.inr rfl, Or.inr rfl, Or.inr rfl, Or.inr rfl, Or.inr rfl, Or.inr rfl, Or.inl rfl, Or.inr rfl, trivial⟩ ?_
      refine w_Mod_runsPid_257 hst hP hw b k hb hkk c md er bk ?_
      rw [f_Mod_runsPid_181, if_pos H1, if_pos H2] at hk
      exact hk
    · refine pw_iload e_Mod_runsPid_216 rfl ?_
      refine pw_iconst (v := (-1)) e_Mod_runsPid_218 (by decide) ?_
      refine pw_icmp_eq (tgt := 227) e_Mod_runsPid_219 (by decide) (fun (H3 : (f_Mod_setFrom P k) = ((-1))) => ?_) (fun (H3 : ¬ (f_Mod_setFrom P k) = ((-1))) => ?_)
      · refine pw_aload_n e_Mod_runsPid_227 rfl ?_
        refine pw_getf e_Mod_runsPid_228 fl_Mod_9 (hP _).o rfl ?_
        refine pw_iload_n e_Mod_runsPid_231 rfl ?_
        refine pw_iconst (v := nI 3) e_Mod_runsPid_232 (by decide) ?_
        refine pw_iaddN e_Mod_runsPid_233 ?_
        refine pw_aload_n e_Mod_runsPid_234 rfl ?_
        refine pw_getf e_Mod_runsPid_235 fl_Mod_9 (hP _).o rfl ?_
        refine pw_iload_n e_Mod_runsPid_238 rfl ?_
        refine pw_iconst (v := nI 3) e_Mod_runsPid_239 (by decide) ?_
        refine pw_iaddN e_Mod_runsPid_240 ?_
        refine pw_ialdN e_Mod_runsPid_241 up_same (by omega) (by decide) ?_
        refine pw_aload_n e_Mod_runsPid_242 rfl ?_
        refine pw_iload_n e_Mod_runsPid_243 rfl ?_
        refine pw_iload_n e_Mod_runsPid_244 rfl ?_
        refine pw_iload e_Mod_runsPid_245 rfl ?_
        refine pw_iload e_Mod_runsPid_247 rfl ?_
        refine pw_detV (As := [.int (nI (b)), .int (nI (k)), .int (er), .int (f_Mod_setFrom P k)]) e_Mod_runsPid_249 li_Mod_227 rfl (hP _).o (q_Mod_moved hst (fun e => by rw [up_up]; exact hP e) hw b k er (by omega) (by omega) c up_same) rfl (by decide) (Nat.le_of_ble_eq_true rfl) rfl ?_
        refine pw_iadd e_Mod_runsPid_252 ?_
        refine pw_detS (As := [.int ((c ((b + 8 * k) + 3)) + (f_Mod_moved P b k er c))]) e_Mod_runsPid_253 li_Mod_231 (q_Mod_put hst ((c ((b + 8 * k) + 3)) + (f_Mod_moved P b k er c))) rfl (by decide) (Nat.le_of_ble_eq_true rfl) rfl ?_
        refine pw_iastU e_Mod_runsPid_256 (by omega) (by decide) ?_
        refine pw_fgt (ls' := [.ref (A 100), .int (nI (b)), .int (nI (k)), .int (nI (b + 8 * k)), .int (md), .retAddr 0, .int (f_Mod_setFrom P k), .int (er), .int (bk), .retAddr 0, .retAddr 0]) ⟨Or.inr rfl, Or.inr rfl, Or.inr rfl, Or.inr rfl, Or.inr rfl, Or.inr rfl, Or.inr rfl, Or.inr rfl, Or.inr rfl, Or.inl rfl, Or.inr rfl, trivial⟩ ?_
        refine w_Mod_runsPid_257 hst hP hw b k hb hkk (upd c ((b + 8 * k) + 3) (f_Mod_put ((c ((b + 8 * k) + 3)) + (f_Mod_moved P b k er c)))) md er bk ?_
        rw [f_Mod_runsPid_181, if_pos H1, if_neg H2, if_pos H3] at hk
        exact hk
      · refine pw_iload e_Mod_runsPid_222 rfl ?_
        refine pw_if_eq (tgt := 257) e_Mod_runsPid_224 (by decide) (fun (H4 : bk = 0) => ?_) (fun (H4 : ¬ bk = 0) => ?_)
        · refine pw_fgt (ls' := [.ref (A 100), .int (nI (b)), .int (nI (k)), .int (nI (b + 8 * k)), .int (md), .retAddr 0, .int (f_Mod_setFrom P k), .int (er), .int (bk), .retAddr 0, .retAddr 0]) ⟨Or.inr rfl, Or.inr rfl, Or.inr rfl, Or.inr rfl, Or.inr rfl, Or.inr rfl, Or.inr rfl, Or.inr rfl, Or.inr rfl, Or.inl rfl, Or.inr rfl, trivial⟩ ?_
          refine w_Mod_runsPid_257 hst hP hw b k hb hkk c md er bk ?_
          rw [f_Mod_runsPid_181, if_pos H1, if_neg H2, if_neg H3, if_pos H4] at hk
          exact hk
        · refine pw_aload_n e_Mod_runsPid_227 rfl ?_
          refine pw_getf e_Mod_runsPid_228 fl_Mod_9 (hP _).o rfl ?_
          refine pw_iload_n e_Mod_runsPid_231 rfl ?_
          refine pw_iconst (v := nI 3) e_Mod_runsPid_232 (by decide) ?_
          refine pw_iaddN e_Mod_runsPid_233 ?_
          refine pw_aload_n e_Mod_runsPid_234 rfl ?_
          refine pw_getf e_Mod_runsPid_235 fl_Mod_9 (hP _).o rfl ?_
          refine pw_iload_n e_Mod_runsPid_238 rfl ?_
          refine pw_iconst (v := nI 3) e_Mod_runsPid_239 (by decide) ?_
          refine pw_iaddN e_Mod_runsPid_240 ?_
          refine pw_ialdN e_Mod_runsPid_241 up_same (by omega) (by decide) ?_
          refine pw_aload_n e_Mod_runsPid_242 rfl ?_
          refine pw_iload_n e_Mod_runsPid_243 rfl ?_
          refine pw_iload_n e_Mod_runsPid_244 rfl ?_
          refine pw_iload e_Mod_runsPid_245 rfl ?_
          refine pw_iload e_Mod_runsPid_247 rfl ?_
          refine pw_detV (As := [.int (nI (b)), .int (nI (k)), .int (er), .int (f_Mod_setFrom P k)]) e_Mod_runsPid_249 li_Mod_227 rfl (hP _).o (q_Mod_moved hst (fun e => by rw [up_up]; exact hP e) hw b k er (by omega) (by omega) c up_same) rfl (by decide) (Nat.le_of_ble_eq_true rfl) rfl ?_
          refine pw_iadd e_Mod_runsPid_252 ?_
          refine pw_detS (As := [.int ((c ((b + 8 * k) + 3)) + (f_Mod_moved P b k er c))]) e_Mod_runsPid_253 li_Mod_231 (q_Mod_put hst ((c ((b + 8 * k) + 3)) + (f_Mod_moved P b k er c))) rfl (by decide) (Nat.le_of_ble_eq_true rfl) rfl ?_
          refine pw_iastU e_Mod_runsPid_256 (by omega) (by decide) ?_
          refine pw_fgt (ls' := [.ref (A 100), .int (nI (b)), .int (nI (k)), .int (nI (b + 8 * k)), .int (md), .retAddr 0, .int (f_Mod_setFrom P k), .int (er), .int (bk), .retAddr 0, .retAddr 0]) ⟨Or.inr rfl, Or.inr rfl, Or.inr rfl, Or.inr rfl, Or.inr rfl, Or.inr rfl, Or.inr rfl, Or.inr rfl, Or.inr rfl, Or.inl rfl, Or.inr rfl, trivial⟩ ?_
          refine w_Mod_runsPid_257 hst hP hw b k hb hkk (upd c ((b + 8 * k) + 3) (f_Mod_put ((c ((b + 8 * k) + 3)) + (f_Mod_moved P b k er c)))) md er bk ?_
          rw [f_Mod_runsPid_181, if_pos H1, if_neg H2, if_neg H3, if_neg H4] at hk
          exact hk
  · refine pw_aload_n e_Mod_runsPid_186 rfl ?_
    refine pw_getf e_Mod_runsPid_187 fl_Mod_9 (hP _).o rfl ?_
    refine pw_iload_n e_Mod_runsPid_190 rfl ?_
    refine pw_iconst (v := nI 3) e_Mod_runsPid_191 (by decide) ?_
    refine pw_iaddN e_Mod_runsPid_192 ?_
    refine pw_aload_n e_Mod_runsPid_193 rfl ?_
    refine pw_getf e_Mod_runsPid_194 fl_Mod_9 (hP _).o rfl ?_
    refine pw_iload_n e_Mod_runsPid_197 rfl ?_
    refine pw_iload e_Mod_runsPid_198 rfl ?_
    have hb5 := (sf_of hw k).2
    refine pw_detS (As := [.int (nI (b)), .int (f_Mod_setFrom P k)]) e_Mod_runsPid_200 li_Mod_199 (q_sfA hst hw b k) rfl (by decide) (Nat.le_of_ble_eq_true rfl) rfl ?_
    refine pw_iconst (v := nI 5) e_Mod_runsPid_203 (by decide) ?_
    refine pw_iaddN e_Mod_runsPid_204 ?_
    refine pw_ialdN e_Mod_runsPid_205 up_same (by omega) (by decide) ?_
    refine pw_iastU e_Mod_runsPid_206 (by omega) (by decide) ?_
    refine pw_goto (tgt := 257) e_Mod_runsPid_207 (by decide) ?_
    refine pw_fgt (ls' := [.ref (A 100), .int (nI (b)), .int (nI (k)), .int (nI (b + 8 * k)), .int (md), .retAddr 0, .int (f_Mod_setFrom P k), .int (er), .int (bk), .retAddr 0, .retAddr 0]) ⟨Or.inr rfl, Or.inr rfl, Or.inr rfl, Or.inr rfl, Or.inr rfl, Or.inr rfl, Or.inr rfl, Or.inr rfl, Or.inr rfl, Or.inl rfl, Or.inr rfl, trivial⟩ ?_
    refine w_Mod_runsPid_257 hst hP hw b k hb hkk (upd c ((b + 8 * k) + 3) (c ((b + 70 + 10 * sfP P k) + 5))) md er bk ?_
    rw [f_Mod_runsPid_181, if_neg H1] at hk
    exact hk
def f_Mod_runsPid_162 (P : Nat → Nat → Int32) (b : Nat) (k : Nat) (c : Nat → Int32) (md : Int32) (er : Int32) (bk : Int32) (fo : Int32) : Nat → Int32 :=
  if fo = 0 then f_Mod_runsPid_181 P b k (upd c ((b + 8 * k) + 7) 0) md er bk fo else f_Mod_runsPid_181 P b k (upd c ((b + 8 * k) + 7) 1) md er bk fo
set_option maxRecDepth 4000 in
theorem w_Mod_runsPid_162 {g : GG} {Q : QT} {h : Hp} {kc ks : Nat} (hst : (gl g).stackTraces = false) {A : Nat → Nat} {P : Nat → Nat → Int32} (hP : ∀ e, ModAt g A P (va_up h (A 0) e)) (hw : wfM P) (b : Nat) (k : Nat) (hb : b + 600 ≤ 18060) (hkk : k < 10)  (c : Nat → Int32) (md : Int32) (er : Int32) (bk : Int32) (fo : Int32) (hk : Q (.inl none) (va_up h (A 0) (some (aI g 18060 (f_Mod_runsPid_162 P b k c md er bk fo))))) : PW g M_Mod_runsPid 2 kc ks Q 162 [.ref (A 100), .int (nI (b)), .int (nI (k)), .int (nI (b + 8 * k)), .int (md), .retAddr 0, .int (f_Mod_setFrom P k), .int (er), .int (bk), .int (fo), .retAddr 0] [] (va_up h (A 0) (some (aI g 18060 (c)))) := by
  have hz0 := hw.blk.2
  have hz1 := hw.lnk.2
  have hz2 := hw.dvs.2
  refine pw_aload_n e_Mod_runsPid_162 rfl ?_
  refine pw_getf e_Mod_runsPid_163 fl_Mod_9 (hP _).o rfl ?_
  refine pw_iload_n e_Mod_runsPid_166 rfl ?_
  refine pw_bipush (v := nI 7) e_Mod_runsPid_167 (by decide) ?_
  refine pw_iaddN e_Mod_runsPid_169 ?_
  refine pw_iload e_Mod_runsPid_170 rfl ?_
  refine pw_if_eq (tgt := 179) e_Mod_runsPid_172 (by decide) (fun (H1 : fo = 0) => ?_) (fun (H1 : ¬ fo = 0) => ?_)
  · refine pw_iconst (v := nI 0) e_Mod_runsPid_179 (by decide) ?_
    refine pw_iastU e_Mod_runsPid_180 (by omega) (by decide) ?_
    refine w_Mod_runsPid_181 hst hP hw b k hb hkk (upd c ((b + 8 * k) + 7) 0) md er bk fo ?_
    rw [f_Mod_runsPid_162, if_pos H1] at hk
    exact hk
  · refine pw_iconst (v := nI 1) e_Mod_runsPid_175 (by decide) ?_
    refine pw_goto (tgt := 180) e_Mod_runsPid_176 (by decide) ?_
    refine pw_iastU e_Mod_runsPid_180 (by omega) (by decide) ?_
    refine w_Mod_runsPid_181 hst hP hw b k hb hkk (upd c ((b + 8 * k) + 7) 1) md er bk fo ?_
    rw [f_Mod_runsPid_162, if_neg H1] at hk
    exact hk
def f_Mod_runsPid_127 (P : Nat → Nat → Int32) (b : Nat) (k : Nat) (c : Nat → Int32) (md : Int32) (er : Int32) (bk : Int32) : Nat → Int32 :=
  if bk = 0 then f_Mod_runsPid_162 P b k c md er bk 0 else if md = 0 then f_Mod_runsPid_162 P b k c md er bk 0 else if (c ((b + 70 + 10 * sfP P k) + 8)) = 1 then f_Mod_runsPid_162 P b k c md er bk 1 else f_Mod_runsPid_162 P b k c md er bk 0
set_option maxRecDepth 4000 in
theorem w_Mod_runsPid_127 {g : GG} {Q : QT} {h : Hp} {kc ks : Nat} (hst : (gl g).stackTraces = false) {A : Nat → Nat} {P : Nat → Nat → Int32} (hP : ∀ e, ModAt g A P (va_up h (A 0) e)) (hw : wfM P) (b : Nat) (k : Nat) (hb : b + 600 ≤ 18060) (hkk : k < 10)  (c : Nat → Int32) (md : Int32) (er : Int32) (bk : Int32) (hk : Q (.inl none) (va_up h (A 0) (some (aI g 18060 (f_Mod_runsPid_127 P b k c md er bk))))) : PW g M_Mod_runsPid 2 kc ks Q 127 [.ref (A 100), .int (nI (b)), .int (nI (k)), .int (nI (b + 8 * k)), .int (md), .retAddr 0, .int (f_Mod_setFrom P k), .int (er), .int (bk), .retAddr 0, .retAddr 0] [] (va_up h (A 0) (some (aI g 18060 (c)))) := by
  have hz0 := hw.blk.2
  have hz1 := hw.lnk.2
  have hz2 := hw.dvs.2
  refine pw_iload e_Mod_runsPid_127 rfl ?_
  refine pw_if_eq (tgt := 159) e_Mod_runsPid_129 (by decide) (fun (H1 : bk = 0) => ?_) (fun (H1 : ¬ bk = 0) => ?_)
  · refine pw_iconst (v := nI 0) e_Mod_runsPid_159 (by decide) ?_
    refine pw_istore (ls2 := [_, _, _, _, _, _, _, _, _, _, _]) e_Mod_runsPid_160 (by decide) rfl ?_
    refine w_Mod_runsPid_162 hst hP hw b k hb hkk c md er bk 0 ?_
    rw [f_Mod_runsPid_127, if_pos H1] at hk
    exact hk
  · refine pw_iload e_Mod_runsPid_132 rfl ?_
    refine pw_if_eq (tgt := 159) e_Mod_runsPid_134 (by decide) (fun (H2 : md = 0) => ?_) (fun (H2 : ¬ md = 0) => ?_)
    · refine pw_iconst (v := nI 0) e_Mod_runsPid_159 (by decide) ?_
      refine pw_istore (ls2 := [_, _, _, _, _, _, _, _, _, _, _]) e_Mod_runsPid_160 (by decide) rfl ?_
      refine w_Mod_runsPid_162 hst hP hw b k hb hkk c md er bk 0 ?_
      rw [f_Mod_runsPid_127, if_neg H1, if_pos H2] at hk
      exact hk
    · refine pw_aload_n e_Mod_runsPid_137 rfl ?_
      refine pw_getf e_Mod_runsPid_138 fl_Mod_9 (hP _).o rfl ?_
      refine pw_iload_n e_Mod_runsPid_141 rfl ?_
      refine pw_iload e_Mod_runsPid_142 rfl ?_
      have hb3 := (sf_of hw k).2
      refine pw_detS (As := [.int (nI (b)), .int (f_Mod_setFrom P k)]) e_Mod_runsPid_144 li_Mod_199 (q_sfA hst hw b k) rfl (by decide) (Nat.le_of_ble_eq_true rfl) rfl ?_
      refine pw_bipush (v := nI 8) e_Mod_runsPid_147 (by decide) ?_
      refine pw_iaddN e_Mod_runsPid_149 ?_
      refine pw_ialdN e_Mod_runsPid_150 up_same (by omega) (by decide) ?_
      refine pw_iconst (v := nI 1) e_Mod_runsPid_151 (by decide) ?_
      refine pw_icmp_ne (tgt := 159) e_Mod_runsPid_152 (by decide) (fun (H4 : ¬ (c ((b + 70 + 10 * sfP P k) + 8)) = 1) => ?_) (fun (H4 : (c ((b + 70 + 10 * sfP P k) + 8)) = 1) => ?_)
      · refine pw_iconst (v := nI 0) e_Mod_runsPid_159 (by decide) ?_
        refine pw_istore (ls2 := [_, _, _, _, _, _, _, _, _, _, _]) e_Mod_runsPid_160 (by decide) rfl ?_
        refine w_Mod_runsPid_162 hst hP hw b k hb hkk c md er bk 0 ?_
        rw [f_Mod_runsPid_127, if_neg H1, if_neg H2, if_neg H4] at hk
        exact hk
      · refine pw_iconst (v := nI 1) e_Mod_runsPid_155 (by decide) ?_
        refine pw_goto (tgt := 160) e_Mod_runsPid_156 (by decide) ?_
        refine pw_istore (ls2 := [_, _, _, _, _, _, _, _, _, _, _]) e_Mod_runsPid_160 (by decide) rfl ?_
        refine w_Mod_runsPid_162 hst hP hw b k hb hkk c md er bk 1 ?_
        rw [f_Mod_runsPid_127, if_neg H1, if_neg H2, if_pos H4] at hk
        exact hk
def f_Mod_runsPid_96 (P : Nat → Nat → Int32) (b : Nat) (k : Nat) (c : Nat → Int32) (md : Int32) (er : Int32) : Nat → Int32 :=
  if (f_Mod_setFrom P k) = ((-1)) then f_Mod_runsPid_127 P b k c md er 0 else if (c ((b + 70 + 10 * sfP P k) + 6)) = 1 then f_Mod_runsPid_127 P b k c md er 1 else f_Mod_runsPid_127 P b k c md er 0
set_option maxRecDepth 4000 in
theorem w_Mod_runsPid_96 {g : GG} {Q : QT} {h : Hp} {kc ks : Nat} (hst : (gl g).stackTraces = false) {A : Nat → Nat} {P : Nat → Nat → Int32} (hP : ∀ e, ModAt g A P (va_up h (A 0) e)) (hw : wfM P) (b : Nat) (k : Nat) (hb : b + 600 ≤ 18060) (hkk : k < 10)  (c : Nat → Int32) (md : Int32) (er : Int32) (hk : Q (.inl none) (va_up h (A 0) (some (aI g 18060 (f_Mod_runsPid_96 P b k c md er))))) : PW g M_Mod_runsPid 2 kc ks Q 96 [.ref (A 100), .int (nI (b)), .int (nI (k)), .int (nI (b + 8 * k)), .int (md), .retAddr 0, .int (f_Mod_setFrom P k), .int (er), .retAddr 0, .retAddr 0, .retAddr 0] [] (va_up h (A 0) (some (aI g 18060 (c)))) := by
  have hz0 := hw.blk.2
  have hz1 := hw.lnk.2
  have hz2 := hw.dvs.2
  refine pw_iload e_Mod_runsPid_96 rfl ?_
  refine pw_iconst (v := (-1)) e_Mod_runsPid_98 (by decide) ?_
  refine pw_icmp_eq (tgt := 124) e_Mod_runsPid_99 (by decide) (fun (H1 : (f_Mod_setFrom P k) = ((-1))) => ?_) (fun (H1 : ¬ (f_Mod_setFrom P k) = ((-1))) => ?_)
  · refine pw_iconst (v := nI 0) e_Mod_runsPid_124 (by decide) ?_
    refine pw_istore (ls2 := [_, _, _, _, _, _, _, _, _, _, _]) e_Mod_runsPid_125 (by decide) rfl ?_
    refine w_Mod_runsPid_127 hst hP hw b k hb hkk c md er 0 ?_
    rw [f_Mod_runsPid_96, if_pos H1] at hk
    exact hk
  · refine pw_aload_n e_Mod_runsPid_102 rfl ?_
    refine pw_getf e_Mod_runsPid_103 fl_Mod_9 (hP _).o rfl ?_
    refine pw_iload_n e_Mod_runsPid_106 rfl ?_
    refine pw_iload e_Mod_runsPid_107 rfl ?_
    have hb2 := (sf_of hw k).2
    refine pw_detS (As := [.int (nI (b)), .int (f_Mod_setFrom P k)]) e_Mod_runsPid_109 li_Mod_199 (q_sfA hst hw b k) rfl (by decide) (Nat.le_of_ble_eq_true rfl) rfl ?_
    refine pw_bipush (v := nI 6) e_Mod_runsPid_112 (by decide) ?_
    refine pw_iaddN e_Mod_runsPid_114 ?_
    refine pw_ialdN e_Mod_runsPid_115 up_same (by omega) (by decide) ?_
    refine pw_iconst (v := nI 1) e_Mod_runsPid_116 (by decide) ?_
    refine pw_icmp_ne (tgt := 124) e_Mod_runsPid_117 (by decide) (fun (H3 : ¬ (c ((b + 70 + 10 * sfP P k) + 6)) = 1) => ?_) (fun (H3 : (c ((b + 70 + 10 * sfP P k) + 6)) = 1) => ?_)
    · refine pw_iconst (v := nI 0) e_Mod_runsPid_124 (by decide) ?_
      refine pw_istore (ls2 := [_, _, _, _, _, _, _, _, _, _, _]) e_Mod_runsPid_125 (by decide) rfl ?_
      refine w_Mod_runsPid_127 hst hP hw b k hb hkk c md er 0 ?_
      rw [f_Mod_runsPid_96, if_neg H1, if_neg H3] at hk
      exact hk
    · refine pw_iconst (v := nI 1) e_Mod_runsPid_120 (by decide) ?_
      refine pw_goto (tgt := 125) e_Mod_runsPid_121 (by decide) ?_
      refine pw_istore (ls2 := [_, _, _, _, _, _, _, _, _, _, _]) e_Mod_runsPid_125 (by decide) rfl ?_
      refine w_Mod_runsPid_127 hst hP hw b k hb hkk c md er 1 ?_
      rw [f_Mod_runsPid_96, if_neg H1, if_pos H3] at hk
      exact hk
def f_Mod_runsPid_62 (P : Nat → Nat → Int32) (b : Nat) (k : Nat) (c : Nat → Int32) (md : Int32) : Nat → Int32 :=
  if (f_Mod_linkTo P k 0) = ((-1)) then f_Mod_runsPid_96 P b k c md ((c ((b + 8 * k) + 2)) - 0) else f_Mod_runsPid_96 P b k c md ((c ((b + 8 * k) + 2)) - (c ((b + 70 + 10 * lkP P k 0) + 0)))
set_option maxRecDepth 4000 in
theorem w_Mod_runsPid_62 {g : GG} {Q : QT} {h : Hp} {kc ks : Nat} (hst : (gl g).stackTraces = false) {A : Nat → Nat} {P : Nat → Nat → Int32} (hP : ∀ e, ModAt g A P (va_up h (A 0) e)) (hw : wfM P) (b : Nat) (k : Nat) (hb : b + 600 ≤ 18060) (hkk : k < 10)  (c : Nat → Int32) (md : Int32) (hk : Q (.inl none) (va_up h (A 0) (some (aI g 18060 (f_Mod_runsPid_62 P b k c md))))) : PW g M_Mod_runsPid 2 kc ks Q 62 [.ref (A 100), .int (nI (b)), .int (nI (k)), .int (nI (b + 8 * k)), .int (md), .int (f_Mod_linkTo P k 0), .int (f_Mod_setFrom P k), .retAddr 0, .retAddr 0, .retAddr 0, .retAddr 0] [] (va_up h (A 0) (some (aI g 18060 (c)))) := by
  have hz0 := hw.blk.2
  have hz1 := hw.lnk.2
  have hz2 := hw.dvs.2
  refine pw_aload_n e_Mod_runsPid_62 rfl ?_
  refine pw_getf e_Mod_runsPid_63 fl_Mod_9 (hP _).o rfl ?_
  refine pw_iload_n e_Mod_runsPid_66 rfl ?_
  refine pw_iconst (v := nI 2) e_Mod_runsPid_67 (by decide) ?_
  refine pw_iaddN e_Mod_runsPid_68 ?_
  refine pw_ialdN e_Mod_runsPid_69 up_same (by omega) (by decide) ?_
  refine pw_iload e_Mod_runsPid_70 rfl ?_
  refine pw_iconst (v := (-1)) e_Mod_runsPid_72 (by decide) ?_
  refine pw_icmp_ne (tgt := 80) e_Mod_runsPid_73 (by decide) (fun (H1 : ¬ (f_Mod_linkTo P k 0) = ((-1))) => ?_) (fun (H1 : (f_Mod_linkTo P k 0) = ((-1))) => ?_)
  · refine pw_aload_n e_Mod_runsPid_80 rfl ?_
    refine pw_getf e_Mod_runsPid_81 fl_Mod_9 (hP _).o rfl ?_
    refine pw_iload_n e_Mod_runsPid_84 rfl ?_
    refine pw_iload e_Mod_runsPid_85 rfl ?_
    have hb2 := (lk_of hw k 0).2
    refine pw_detS (As := [.int (nI (b)), .int (f_Mod_linkTo P k 0)]) e_Mod_runsPid_87 li_Mod_199 (q_lkA hst hw b k 0) rfl (by decide) (Nat.le_of_ble_eq_true rfl) rfl ?_
    refine pw_iconst (v := nI 0) e_Mod_runsPid_90 (by decide) ?_
    refine pw_iaddN e_Mod_runsPid_91 ?_
    refine pw_ialdN e_Mod_runsPid_92 up_same (by omega) (by decide) ?_
    refine pw_isub e_Mod_runsPid_93 ?_
    refine pw_istore (ls2 := [_, _, _, _, _, _, _, _, _, _, _]) e_Mod_runsPid_94 (by decide) rfl ?_
    refine pw_fgt (ls' := [.ref (A 100), .int (nI (b)), .int (nI (k)), .int (nI (b + 8 * k)), .int (md), .retAddr 0, .int (f_Mod_setFrom P k), .int ((c ((b + 8 * k) + 2)) - (c ((b + 70 + 10 * lkP P k 0) + 0))), .retAddr 0, .retAddr 0, .retAddr 0]) ⟨Or.inr rfl, Or.inr rfl, Or.inr rfl, Or.inr rfl, Or.inr rfl, Or.inl rfl, Or.inr rfl, Or.inr rfl, Or.inr rfl, Or.inr rfl, Or.inr rfl, trivial⟩ ?_
    refine w_Mod_runsPid_96 hst hP hw b k hb hkk c md ((c ((b + 8 * k) + 2)) - (c ((b + 70 + 10 * lkP P k 0) + 0))) ?_
    rw [f_Mod_runsPid_62, if_neg H1] at hk
    exact hk
  · refine pw_iconst (v := nI 0) e_Mod_runsPid_76 (by decide) ?_
    refine pw_goto (tgt := 93) e_Mod_runsPid_77 (by decide) ?_
    refine pw_isub e_Mod_runsPid_93 ?_
    refine pw_istore (ls2 := [_, _, _, _, _, _, _, _, _, _, _]) e_Mod_runsPid_94 (by decide) rfl ?_
    refine pw_fgt (ls' := [.ref (A 100), .int (nI (b)), .int (nI (k)), .int (nI (b + 8 * k)), .int (md), .retAddr 0, .int (f_Mod_setFrom P k), .int ((c ((b + 8 * k) + 2)) - 0), .retAddr 0, .retAddr 0, .retAddr 0]) ⟨Or.inr rfl, Or.inr rfl, Or.inr rfl, Or.inr rfl, Or.inr rfl, Or.inl rfl, Or.inr rfl, Or.inr rfl, Or.inr rfl, Or.inr rfl, Or.inr rfl, trivial⟩ ?_
    refine w_Mod_runsPid_96 hst hP hw b k hb hkk c md ((c ((b + 8 * k) + 2)) - 0) ?_
    rw [f_Mod_runsPid_62, if_pos H1] at hk
    exact hk
def f_Mod_runsPid (P : Nat → Nat → Int32) (b : Nat) (k : Nat) (c : Nat → Int32) : Nat → Int32 :=
  if (c ((b + 8 * k) + 1)) = 3 then f_Mod_runsPid_62 P b k (upd c ((b + 8 * k) + 2) (c ((b + 70 + 10 * lkP P k 2) + 0))) (c ((b + 8 * k) + 1)) else f_Mod_runsPid_62 P b k c (c ((b + 8 * k) + 1))
set_option maxRecDepth 4000 in
theorem w_Mod_runsPid_0 {g : GG} {Q : QT} {h : Hp} {kc ks : Nat} (hst : (gl g).stackTraces = false) {A : Nat → Nat} {P : Nat → Nat → Int32} (hP : ∀ e, ModAt g A P (va_up h (A 0) e)) (hw : wfM P) (b : Nat) (k : Nat) (hb : b + 600 ≤ 18060) (hkk : k < 10)  (c : Nat → Int32) (hk : Q (.inl none) (va_up h (A 0) (some (aI g 18060 (f_Mod_runsPid P b k c))))) : PW g M_Mod_runsPid 2 kc ks Q 0 [.ref (A 100), .int (nI (b)), .int (nI (k)), .retAddr 0, .retAddr 0, .retAddr 0, .retAddr 0, .retAddr 0, .retAddr 0, .retAddr 0, .retAddr 0] [] (va_up h (A 0) (some (aI g 18060 (c)))) := by
  have hz0 := hw.blk.2
  have hz1 := hw.lnk.2
  have hz2 := hw.dvs.2
  refine pw_iload_n e_Mod_runsPid_0 rfl ?_
  refine pw_iload_n e_Mod_runsPid_1 rfl ?_
  refine pw_detS (As := [.int (nI (b)), .int (nI (k))]) e_Mod_runsPid_2 li_Mod_193 (q_at hst b k) rfl (by decide) (Nat.le_of_ble_eq_true rfl) rfl ?_
  refine pw_istore_n (ls2 := [_, _, _, _, _, _, _, _, _, _, _]) e_Mod_runsPid_5 (by decide) rfl ?_
  refine pw_aload_n e_Mod_runsPid_6 rfl ?_
  refine pw_getf e_Mod_runsPid_7 fl_Mod_9 (hP _).o rfl ?_
  refine pw_iload_n e_Mod_runsPid_10 rfl ?_
  refine pw_iconst (v := nI 1) e_Mod_runsPid_11 (by decide) ?_
  refine pw_iaddN e_Mod_runsPid_12 ?_
  refine pw_ialdN e_Mod_runsPid_13 up_same (by omega) (by decide) ?_
  refine pw_istore (ls2 := [_, _, _, _, _, _, _, _, _, _, _]) e_Mod_runsPid_14 (by decide) rfl ?_
  refine pw_aload_n e_Mod_runsPid_16 rfl ?_
  refine pw_iload_n e_Mod_runsPid_17 rfl ?_
  refine pw_iconst (v := nI 0) e_Mod_runsPid_18 (by decide) ?_
  refine pw_detV (As := [.int (nI (k)), .int (nI (0))]) e_Mod_runsPid_19 li_Mod_196 rfl (hP _).o (q_Mod_linkTo hst (hP _) hw k 0 (by omega) (by omega)) rfl (by decide) (Nat.le_of_ble_eq_true rfl) rfl ?_
  refine pw_istore (ls2 := [_, _, _, _, _, _, _, _, _, _, _]) e_Mod_runsPid_22 (by decide) rfl ?_
  refine pw_aload_n e_Mod_runsPid_24 rfl ?_
  refine pw_iload_n e_Mod_runsPid_25 rfl ?_
  refine pw_detV (As := [.int (nI (k))]) e_Mod_runsPid_26 li_Mod_224 rfl (hP _).o (q_Mod_setFrom hst (hP _) hw k (by omega)) rfl (by decide) (Nat.le_of_ble_eq_true rfl) rfl ?_
  refine pw_istore (ls2 := [_, _, _, _, _, _, _, _, _, _, _]) e_Mod_runsPid_29 (by decide) rfl ?_
  refine pw_iload e_Mod_runsPid_31 rfl ?_
  refine pw_iconst (v := nI 3) e_Mod_runsPid_33 (by decide) ?_
  refine pw_icmp_ne (tgt := 62) e_Mod_runsPid_34 (by decide) (fun (H1 : ¬ (c ((b + 8 * k) + 1)) = 3) => ?_) (fun (H1 : (c ((b + 8 * k) + 1)) = 3) => ?_)
  · refine w_Mod_runsPid_62 hst hP hw b k hb hkk c (c ((b + 8 * k) + 1)) ?_
    rw [f_Mod_runsPid, if_neg H1] at hk
    exact hk
  · refine pw_aload_n e_Mod_runsPid_37 rfl ?_
    refine pw_getf e_Mod_runsPid_38 fl_Mod_9 (hP _).o rfl ?_
    refine pw_iload_n e_Mod_runsPid_41 rfl ?_
    refine pw_iconst (v := nI 2) e_Mod_runsPid_42 (by decide) ?_
    refine pw_iaddN e_Mod_runsPid_43 ?_
    refine pw_aload_n e_Mod_runsPid_44 rfl ?_
    refine pw_getf e_Mod_runsPid_45 fl_Mod_9 (hP _).o rfl ?_
    refine pw_iload_n e_Mod_runsPid_48 rfl ?_
    refine pw_aload_n e_Mod_runsPid_49 rfl ?_
    refine pw_iload_n e_Mod_runsPid_50 rfl ?_
    refine pw_iconst (v := nI 2) e_Mod_runsPid_51 (by decide) ?_
    refine pw_detV (As := [.int (nI (k)), .int (nI (2))]) e_Mod_runsPid_52 li_Mod_196 rfl (hP _).o (q_Mod_linkTo hst (hP _) hw k 2 (by omega) (by omega)) rfl (by decide) (Nat.le_of_ble_eq_true rfl) rfl ?_
    have hb2 := (lk_of hw k 2).2
    refine pw_detS (As := [.int (nI (b)), .int (f_Mod_linkTo P k 2)]) e_Mod_runsPid_55 li_Mod_199 (q_lkA hst hw b k 2) rfl (by decide) (Nat.le_of_ble_eq_true rfl) rfl ?_
    refine pw_iconst (v := nI 0) e_Mod_runsPid_58 (by decide) ?_
    refine pw_iaddN e_Mod_runsPid_59 ?_
    refine pw_ialdN e_Mod_runsPid_60 up_same (by omega) (by decide) ?_
    refine pw_iastU e_Mod_runsPid_61 (by omega) (by decide) ?_
    refine w_Mod_runsPid_62 hst hP hw b k hb hkk (upd c ((b + 8 * k) + 2) (c ((b + 70 + 10 * lkP P k 2) + 0))) (c ((b + 8 * k) + 1)) ?_
    rw [f_Mod_runsPid, if_pos H1] at hk
    exact hk
theorem q_Mod_runsPid {g : GG} {h : Hp} (hst : (gl g).stackTraces = false) {A : Nat → Nat} {P : Nat → Nat → Int32} (hP : ∀ e, ModAt g A P (va_up h (A 0) e)) (hw : wfM P) (b : Nat) (k : Nat) (hb : b + 600 ≤ 18060) (hkk : k < 10)  (c : Nat → Int32) (hm : h (A 0) = some (aI g 18060 c)) : PM g M_Mod_runsPid 2 0 0 [.ref (A 100), .int (nI (b)), .int (nI (k))] h (RetV none (va_up h (A 0) (some (aI g 18060 (f_Mod_runsPid P b k c))))) := by
  refine PM.of hst (by decide) rfl (fun v hv => ?_) (Nat.le_of_ble_eq_true rfl) ?_
  · simp only [List.mem_cons, List.not_mem_nil, or_false] at hv; rcases hv with rfl | rfl | rfl <;> rfl
  · have hq := w_Mod_runsPid_0 (g := g) (Q := RetV none (va_up h (A 0) (some (aI g 18060 (f_Mod_runsPid P b k c))))) (h := h) (kc := 0) (ks := 0) hst hP hw b k hb hkk c ?_
    · rw [up_self hm] at hq; exact hq
    · exact ⟨rfl, rfl⟩

def f_Mod_runs_18 (P : Nat → Nat → Int32) (b : Nat) (k : Nat) (c : Nat → Int32) : Nat → Int32 :=
  if (pN P 3 k) = 0 then f_Mod_runsInput P b k c else if (pN P 3 k) = 3 then f_Mod_runsPick P b k c else if (pN P 3 k) = 2 then f_Mod_runsOutput P b k c else f_Mod_runsPid P b k c
set_option maxRecDepth 4000 in
theorem w_Mod_runs_18 {g : GG} {Q : QT} {h : Hp} {kc ks : Nat} (hst : (gl g).stackTraces = false) {A : Nat → Nat} {P : Nat → Nat → Int32} (hP : ∀ e, ModAt g A P (va_up h (A 0) e)) (hw : wfM P) (b : Nat) (k : Nat) (hb : b + 600 ≤ 18060) (hkk : k < 10)  (c : Nat → Int32) (hk : Q (.inl none) (va_up h (A 0) (some (aI g 18060 (f_Mod_runs_18 P b k c))))) : PW g M_Mod_runs 3 kc ks Q 18 [.ref (A 100), .int (nI (b)), .int (nI (k))] [] (va_up h (A 0) (some (aI g 18060 (c)))) := by
  have hz0 := hw.blk.2
  have hz1 := hw.lnk.2
  have hz2 := hw.dvs.2
  refine pw_aload_n e_Mod_runs_18 rfl ?_
  refine pw_getf e_Mod_runs_19 fl_Mod_19 (hP _).o rfl ?_
  refine pw_iload_n e_Mod_runs_22 rfl ?_
  have hb1 := hw.kind k
  refine pw_ialdC e_Mod_runs_23 (hP _).a3 (by omega) (by decide) hb1.1 ?_
  replace hb1 := hb1.2
  refine pw_if_neN (tgt := 36) e_Mod_runs_24 (by decide) (by omega) (fun (H2 : ¬ (pN P 3 k) = 0) => ?_) (fun (H2 : (pN P 3 k) = 0) => ?_)
  · refine pw_aload_n e_Mod_runs_36 rfl ?_
    refine pw_getf e_Mod_runs_37 fl_Mod_19 (hP _).o rfl ?_
    refine pw_iload_n e_Mod_runs_40 rfl ?_
    have hb3 := hw.kind k
    refine pw_ialdC e_Mod_runs_41 (hP _).a3 (by omega) (by decide) hb3.1 ?_
    replace hb3 := hb3.2
    refine pw_iconst (v := nI 3) e_Mod_runs_42 (by decide) ?_
    refine pw_icmp_neN (tgt := 55) e_Mod_runs_43 (by decide) (by omega) (by omega) (fun (H4 : ¬ (pN P 3 k) = 3) => ?_) (fun (H4 : (pN P 3 k) = 3) => ?_)
    · refine pw_aload_n e_Mod_runs_55 rfl ?_
      refine pw_getf e_Mod_runs_56 fl_Mod_19 (hP _).o rfl ?_
      refine pw_iload_n e_Mod_runs_59 rfl ?_
      have hb5 := hw.kind k
      refine pw_ialdC e_Mod_runs_60 (hP _).a3 (by omega) (by decide) hb5.1 ?_
      replace hb5 := hb5.2
      refine pw_iconst (v := nI 2) e_Mod_runs_61 (by decide) ?_
      refine pw_icmp_neN (tgt := 74) e_Mod_runs_62 (by decide) (by omega) (by omega) (fun (H6 : ¬ (pN P 3 k) = 2) => ?_) (fun (H6 : (pN P 3 k) = 2) => ?_)
      · refine pw_aload_n e_Mod_runs_74 rfl ?_
        refine pw_iload_n e_Mod_runs_75 rfl ?_
        refine pw_iload_n e_Mod_runs_76 rfl ?_
        refine pw_detV (As := [.int (nI (b)), .int (nI (k))]) e_Mod_runs_77 li_Mod_249 rfl (hP _).o (q_Mod_runsPid hst (fun e => by rw [up_up]; exact hP e) hw b k (by omega) (by omega) c up_same) rfl (by decide) (Nat.le_of_ble_eq_true rfl) rfl ?_
        rw [up_up]
        refine pw_vret e_Mod_runs_80 rfl ?_
        rw [f_Mod_runs_18, if_neg H2, if_neg H4, if_neg H6] at hk
        exact hk
      · refine pw_aload_n e_Mod_runs_65 rfl ?_
        refine pw_iload_n e_Mod_runs_66 rfl ?_
        refine pw_iload_n e_Mod_runs_67 rfl ?_
        refine pw_detV (As := [.int (nI (b)), .int (nI (k))]) e_Mod_runs_68 li_Mod_246 rfl (hP _).o (q_Mod_runsOutput hst (fun e => by rw [up_up]; exact hP e) hw b k (by omega) (by omega) c up_same) rfl (by decide) (Nat.le_of_ble_eq_true rfl) rfl ?_
        rw [up_up]
        refine pw_goto (tgt := 80) e_Mod_runs_71 (by decide) ?_
        refine pw_vret e_Mod_runs_80 rfl ?_
        rw [f_Mod_runs_18, if_neg H2, if_neg H4, if_pos H6] at hk
        exact hk
    · refine pw_aload_n e_Mod_runs_46 rfl ?_
      refine pw_iload_n e_Mod_runs_47 rfl ?_
      refine pw_iload_n e_Mod_runs_48 rfl ?_
      refine pw_detV (As := [.int (nI (b)), .int (nI (k))]) e_Mod_runs_49 li_Mod_243 rfl (hP _).o (q_Mod_runsPick hst (fun e => by rw [up_up]; exact hP e) hw b k (by omega) (by omega) c up_same) rfl (by decide) (Nat.le_of_ble_eq_true rfl) rfl ?_
      rw [up_up]
      refine pw_goto (tgt := 80) e_Mod_runs_52 (by decide) ?_
      refine pw_vret e_Mod_runs_80 rfl ?_
      rw [f_Mod_runs_18, if_neg H2, if_pos H4] at hk
      exact hk
  · refine pw_aload_n e_Mod_runs_27 rfl ?_
    refine pw_iload_n e_Mod_runs_28 rfl ?_
    refine pw_iload_n e_Mod_runs_29 rfl ?_
    refine pw_detV (As := [.int (nI (b)), .int (nI (k))]) e_Mod_runs_30 li_Mod_240 rfl (hP _).o (q_Mod_runsInput hst (fun e => by rw [up_up]; exact hP e) hw b k (by omega) (by omega) c up_same) rfl (by decide) (Nat.le_of_ble_eq_true rfl) rfl ?_
    rw [up_up]
    refine pw_goto (tgt := 80) e_Mod_runs_33 (by decide) ?_
    refine pw_vret e_Mod_runs_80 rfl ?_
    rw [f_Mod_runs_18, if_pos H2] at hk
    exact hk
def f_Mod_runs (P : Nat → Nat → Int32) (b : Nat) (k : Nat) (c : Nat → Int32) : Nat → Int32 :=
  f_Mod_runs_18 P b k (upd ((f_Mod_actualOf P b k c).2) ((b + 8 * k) + 1) ((f_Mod_actualOf P b k c).1))
set_option maxRecDepth 4000 in
theorem w_Mod_runs_0 {g : GG} {Q : QT} {h : Hp} {kc ks : Nat} (hst : (gl g).stackTraces = false) {A : Nat → Nat} {P : Nat → Nat → Int32} (hP : ∀ e, ModAt g A P (va_up h (A 0) e)) (hw : wfM P) (b : Nat) (k : Nat) (hb : b + 600 ≤ 18060) (hkk : k < 10)  (c : Nat → Int32) (hk : Q (.inl none) (va_up h (A 0) (some (aI g 18060 (f_Mod_runs P b k c))))) : PW g M_Mod_runs 3 kc ks Q 0 [.ref (A 100), .int (nI (b)), .int (nI (k))] [] (va_up h (A 0) (some (aI g 18060 (c)))) := by
  have hz0 := hw.blk.2
  have hz1 := hw.lnk.2
  have hz2 := hw.dvs.2
  refine pw_aload_n e_Mod_runs_0 rfl ?_
  refine pw_getf e_Mod_runs_1 fl_Mod_9 (hP _).o rfl ?_
  refine pw_iload_n e_Mod_runs_4 rfl ?_
  refine pw_iload_n e_Mod_runs_5 rfl ?_
  refine pw_detS (As := [.int (nI (b)), .int (nI (k))]) e_Mod_runs_6 li_Mod_193 (q_at hst b k) rfl (by decide) (Nat.le_of_ble_eq_true rfl) rfl ?_
  refine pw_iconst (v := nI 1) e_Mod_runs_9 (by decide) ?_
  refine pw_iaddN e_Mod_runs_10 ?_
  refine pw_aload_n e_Mod_runs_11 rfl ?_
  refine pw_iload_n e_Mod_runs_12 rfl ?_
  refine pw_iload_n e_Mod_runs_13 rfl ?_
  refine pw_detV (As := [.int (nI (b)), .int (nI (k))]) e_Mod_runs_14 li_Mod_237 rfl (hP _).o (q_Mod_actualOf hst (fun e => by rw [up_up]; exact hP e) hw b k (by omega) (by omega) c up_same) rfl (by decide) (Nat.le_of_ble_eq_true rfl) rfl ?_
  rw [up_up]
  refine pw_iastU e_Mod_runs_17 (by omega) (by decide) ?_
  refine w_Mod_runs_18 hst hP hw b k hb hkk (upd ((f_Mod_actualOf P b k c).2) ((b + 8 * k) + 1) ((f_Mod_actualOf P b k c).1)) ?_
  rw [f_Mod_runs] at hk
  exact hk
theorem q_Mod_runs {g : GG} {h : Hp} (hst : (gl g).stackTraces = false) {A : Nat → Nat} {P : Nat → Nat → Int32} (hP : ∀ e, ModAt g A P (va_up h (A 0) e)) (hw : wfM P) (b : Nat) (k : Nat) (hb : b + 600 ≤ 18060) (hkk : k < 10)  (c : Nat → Int32) (hm : h (A 0) = some (aI g 18060 c)) : PM g M_Mod_runs 3 0 0 [.ref (A 100), .int (nI (b)), .int (nI (k))] h (RetV none (va_up h (A 0) (some (aI g 18060 (f_Mod_runs P b k c))))) := by
  refine PM.of hst (by decide) rfl (fun v hv => ?_) (Nat.le_of_ble_eq_true rfl) ?_
  · simp only [List.mem_cons, List.not_mem_nil, or_false] at hv; rcases hv with rfl | rfl | rfl <;> rfl
  · have hq := w_Mod_runs_0 (g := g) (Q := RetV none (va_up h (A 0) (some (aI g 18060 (f_Mod_runs P b k c))))) (h := h) (kc := 0) (ks := 0) hst hP hw b k hb hkk c ?_
    · rw [up_self hm] at hq; exact hq
    · exact ⟨rfl, rfl⟩

def f_Mod_actuated_5 (P : Nat → Nat → Int32) (b : Nat) (x : Int32) : Nat → (Nat → Int32) → (Int32) → (Nat) → Int32
  | 0, _, _, _ => 0
  | t + 1, c, v, k => if (pN P 100 20) ≤ k then v else if (pN P 3 k) = 2 then if (nI (pN P 4 k)) = x then f_Mod_actuated_5 P b x t c (c ((b + 8 * k) + 3)) (k + 1) else f_Mod_actuated_5 P b x t c v (k + 1) else f_Mod_actuated_5 P b x t c v (k + 1)
set_option maxRecDepth 4000 in
theorem w_Mod_actuated_5 {g : GG} {Q : QT} {h : Hp} {kc ks : Nat} (hst : (gl g).stackTraces = false) {A : Nat → Nat} {P : Nat → Nat → Int32} (hP : ∀ e, ModAt g A P (va_up h (A 0) e)) (hw : wfM P) (b : Nat) (x : Int32) (hb : b + 600 ≤ 18060)  (t : Nat) : ∀ (c : Nat → Int32) (v : Int32) (k : Nat) (hk9 : k < 11) (hlt : 10 - k < t) (hk : Q (.inl (some (.int (f_Mod_actuated_5 P b x t c v k)))) (va_up h (A 0) (some (aI g 18060 (c))))), PW g M_Mod_actuated 1 kc ks Q 5 [.ref (A 100), .int (nI (b)), .int (x), .int (v), .int (nI (k))] [] (va_up h (A 0) (some (aI g 18060 (c)))) := by
  induction t with
  | zero => intro c v k hk9 hlt _; exact absurd hlt (Nat.not_lt_zero _)
  | succ t ih =>
    intro c v k hk9 hlt hk
    have hz0 := hw.blk.2
    have hz1 := hw.lnk.2
    have hz2 := hw.dvs.2
    refine pw_iload e_Mod_actuated_5 rfl ?_
    refine pw_aload_n e_Mod_actuated_7 rfl ?_
    refine pw_getf e_Mod_actuated_8 fl_Mod_183 (hP _).o rfl ?_
    rw [hw.blk.1]
    refine pw_icmp_geN (tgt := 56) e_Mod_actuated_11 (by decide) (by omega) (by omega) (fun (H1 : (pN P 100 20) ≤ k) => ?_) (fun (H1 : k < (pN P 100 20)) => ?_)
    · refine pw_iload_n e_Mod_actuated_56 rfl ?_
      refine pw_iret e_Mod_actuated_57 rfl rfl ?_
      rw [f_Mod_actuated_5, if_pos H1] at hk
      exact hk
    · refine pw_aload_n e_Mod_actuated_14 rfl ?_
      refine pw_getf e_Mod_actuated_15 fl_Mod_19 (hP _).o rfl ?_
      refine pw_iload e_Mod_actuated_18 rfl ?_
      have hb2 := hw.kind k
      refine pw_ialdC e_Mod_actuated_20 (hP _).a3 (by omega) (by decide) hb2.1 ?_
      replace hb2 := hb2.2
      refine pw_iconst (v := nI 2) e_Mod_actuated_21 (by decide) ?_
      refine pw_icmp_neN (tgt := 50) e_Mod_actuated_22 (by decide) (by omega) (by omega) (fun (H3 : ¬ (pN P 3 k) = 2) => ?_) (fun (H3 : (pN P 3 k) = 2) => ?_)
      · refine pw_iincN (ls2 := [_, _, _, _, _]) e_Mod_actuated_50 rfl (by decide) rfl ?_
        refine pw_goto (tgt := 5) e_Mod_actuated_53 (by decide) ?_
        refine ih c v (k + 1) (by omega) (by omega) ?_
        rw [f_Mod_actuated_5, if_neg (Nat.not_le.mpr H1), if_neg H3] at hk
        exact hk
      · refine pw_aload_n e_Mod_actuated_25 rfl ?_
        refine pw_getf e_Mod_actuated_26 fl_Mod_22 (hP _).o rfl ?_
        refine pw_iload e_Mod_actuated_29 rfl ?_
        have hb4 := hw.one k
        refine pw_ialdC e_Mod_actuated_31 (hP _).a4 (by omega) (by decide) hb4.1 ?_
        replace hb4 := hb4.2
        refine pw_iload_n e_Mod_actuated_32 rfl ?_
        refine pw_icmp_ne (tgt := 50) e_Mod_actuated_33 (by decide) (fun (H5 : ¬ (nI (pN P 4 k)) = x) => ?_) (fun (H5 : (nI (pN P 4 k)) = x) => ?_)
        · refine pw_iincN (ls2 := [_, _, _, _, _]) e_Mod_actuated_50 rfl (by decide) rfl ?_
          refine pw_goto (tgt := 5) e_Mod_actuated_53 (by decide) ?_
          refine ih c v (k + 1) (by omega) (by omega) ?_
          rw [f_Mod_actuated_5, if_neg (Nat.not_le.mpr H1), if_pos H3, if_neg H5] at hk
          exact hk
        · refine pw_aload_n e_Mod_actuated_36 rfl ?_
          refine pw_getf e_Mod_actuated_37 fl_Mod_9 (hP _).o rfl ?_
          refine pw_iload_n e_Mod_actuated_40 rfl ?_
          refine pw_iload e_Mod_actuated_41 rfl ?_
          refine pw_detS (As := [.int (nI (b)), .int (nI (k))]) e_Mod_actuated_43 li_Mod_193 (q_at hst b k) rfl (by decide) (Nat.le_of_ble_eq_true rfl) rfl ?_
          refine pw_iconst (v := nI 3) e_Mod_actuated_46 (by decide) ?_
          refine pw_iaddN e_Mod_actuated_47 ?_
          refine pw_ialdN e_Mod_actuated_48 up_same (by omega) (by decide) ?_
          refine pw_istore_n (ls2 := [_, _, _, _, _]) e_Mod_actuated_49 (by decide) rfl ?_
          refine pw_iincN (ls2 := [_, _, _, _, _]) e_Mod_actuated_50 rfl (by decide) rfl ?_
          refine pw_goto (tgt := 5) e_Mod_actuated_53 (by decide) ?_
          refine ih c (c ((b + 8 * k) + 3)) (k + 1) (by omega) (by omega) ?_
          rw [f_Mod_actuated_5, if_neg (Nat.not_le.mpr H1), if_pos H3, if_pos H5] at hk
          exact hk
def f_Mod_actuated (P : Nat → Nat → Int32) (b : Nat) (x : Int32) (c : Nat → Int32) : Int32 :=
  f_Mod_actuated_5 P b x 11 c 0 0
set_option maxRecDepth 4000 in
theorem w_Mod_actuated_0 {g : GG} {Q : QT} {h : Hp} {kc ks : Nat} (hst : (gl g).stackTraces = false) {A : Nat → Nat} {P : Nat → Nat → Int32} (hP : ∀ e, ModAt g A P (va_up h (A 0) e)) (hw : wfM P) (b : Nat) (x : Int32) (hb : b + 600 ≤ 18060)  (c : Nat → Int32) (hk : Q (.inl (some (.int (f_Mod_actuated P b x c)))) (va_up h (A 0) (some (aI g 18060 (c))))) : PW g M_Mod_actuated 1 kc ks Q 0 [.ref (A 100), .int (nI (b)), .int (x), .retAddr 0, .retAddr 0] [] (va_up h (A 0) (some (aI g 18060 (c)))) := by
  have hz0 := hw.blk.2
  have hz1 := hw.lnk.2
  have hz2 := hw.dvs.2
  refine pw_iconst (v := nI 0) e_Mod_actuated_0 (by decide) ?_
  refine pw_istore_n (ls2 := [_, _, _, _, _]) e_Mod_actuated_1 (by decide) rfl ?_
  refine pw_iconst (v := nI 0) e_Mod_actuated_2 (by decide) ?_
  refine pw_istore (ls2 := [_, _, _, _, _]) e_Mod_actuated_3 (by decide) rfl ?_
  refine w_Mod_actuated_5 hst hP hw b x hb 11 c 0 0 (by omega) (by omega) ?_
  rw [f_Mod_actuated] at hk
  exact hk
theorem q_Mod_actuated {g : GG} {h : Hp} (hst : (gl g).stackTraces = false) {A : Nat → Nat} {P : Nat → Nat → Int32} (hP : ∀ e, ModAt g A P (va_up h (A 0) e)) (hw : wfM P) (b : Nat) (x : Int32) (hb : b + 600 ≤ 18060)  (c : Nat → Int32) (hm : h (A 0) = some (aI g 18060 c)) : PM g M_Mod_actuated 1 0 0 [.ref (A 100), .int (nI (b)), .int (x)] h (RetV (some (.int (f_Mod_actuated P b x c))) h) := by
  refine PM.of hst (by decide) rfl (fun v hv => ?_) (Nat.le_of_ble_eq_true rfl) ?_
  · simp only [List.mem_cons, List.not_mem_nil, or_false] at hv; rcases hv with rfl | rfl | rfl <;> rfl
  · have hq := w_Mod_actuated_0 (g := g) (Q := RetV (some (.int (f_Mod_actuated P b x c))) h) (h := h) (kc := 0) (ks := 0) hst hP hw b x hb c ?_
    · rw [up_self hm] at hq; exact hq
    · exact ⟨rfl, up_self hm⟩

