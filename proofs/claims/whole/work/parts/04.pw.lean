/-! the judgement PW: the machine at a method's instruction, over a world that is a map from addresses to cells -/
abbrev Hp : Type := Nat → Option va_E
abbrev GG : Type := Launch × va_G × (Nat → ClassId) × Nat × (Nat → Nat) × (Nat → Nat) × Nat × Nat × Nat × (Nat → Int32)
def gl (g : GG) : Launch := g.1
def gD (g : GG) : va_G := g.2.1
def gc (g : GG) : Nat → ClassId := g.2.2.1
def gb (g : GG) : Nat := g.2.2.2.1
def gk (g : GG) : Nat → Nat := g.2.2.2.2.1
def gv (g : GG) : Nat → Nat := g.2.2.2.2.2.1
def gn (g : GG) : Nat := g.2.2.2.2.2.2.1
/-- the script: its address, its length, what it holds -/
def gsa (g : GG) : Nat := g.2.2.2.2.2.2.2.1
def gsl (g : GG) : Nat := g.2.2.2.2.2.2.2.2.1
def gsx (g : GG) : Nat → Int32 := g.2.2.2.2.2.2.2.2.2
def tys (g : GG) : List (ClassId × FieldType) := [(gc g 0, .int), (gc g 1, .byte), (gc g 2, .boolean), (gc g 3, .long), (gc g 4, .object "CascadeBus$State")]
def A0 (g : GG) : Nat → Prop := fun q => gb g ≤ q
/-- the world h in the heap H -/
def Rl (g : GG) (h : Hp) (H : Heap) : Prop := ∃ ws : va_W, va_P (gD g) vcl ws H ∧ va_D (A0 g) ws ∧ ∀ (a : Nat) (e : va_E), h a = some e → ∃ k : Nat, ws[k]? = some (a, e)

/-- the texts of the class, by their entries; the reference's words -/
def strI : List Nat := [66, 75, 135, 143, 173, 175, 180, 181, 148, 153, 159, 160, 80, 196, 198, 200, 85, 90, 95]
def strT : List String := ["devices", "block", "input", "pid", "man", "auto", "stays", "back", "output", "pick", "most", "least", "link", "value", "other", "set", "plant", "old", "over"]
def strN : List Nat := [7, 5, 5, 3, 3, 4, 5, 4, 6, 4, 4, 5, 4, 5, 5, 3, 5, 3, 4]
def strB : List (List Int32) := [[100, 101, 118, 105, 99, 101, 115], [98, 108, 111, 99, 107], [105, 110, 112, 117, 116], [112, 105, 100], [109, 97, 110], [97, 117, 116, 111], [115, 116, 97, 121, 115], [98, 97, 99, 107], [111, 117, 116, 112, 117, 116], [112, 105, 99, 107], [109, 111, 115, 116], [108, 101, 97, 115, 116], [108, 105, 110, 107], [118, 97, 108, 117, 101], [111, 116, 104, 101, 114], [115, 101, 116], [112, 108, 97, 110, 116], [111, 108, 100], [111, 118, 101, 114]]
def knB : List Int32 := [100, 101, 118, 105, 99, 101, 115, 32, 98, 108, 111, 99, 107, 32, 108, 105, 110, 107, 32, 112, 108, 97, 110, 116, 32, 111, 108, 100, 32, 111, 118, 101, 114, 32, 105, 110, 112, 117, 116, 32, 112, 105, 100, 32, 111, 117, 116, 112, 117, 116, 32, 112, 105, 99, 107, 32, 109, 97, 110, 32, 97, 117, 116, 111, 32, 98, 97, 99, 107, 32, 115, 116, 97, 121, 115, 32, 109, 111, 115, 116, 32, 108, 101, 97, 115, 116, 32, 118, 97, 108, 117, 101, 32, 111, 116, 104, 101, 114, 32, 115, 101, 116, 32]
/-- what was there before, in the heap H -/
def OFh (g : GG) (U : State) (H : Heap) : Prop :=
  vx_Zq Bundle.tN "UNASSIGNED_STACK" Bundle.steD (A0 g) U H ∧ vx_Zq Bundle.tN "SUPPRESSED_SENTINEL" Bundle.listD (A0 g) U H ∧ va_AO "CascadeBus$State" U ∧ (va_X (gsa g) (gsl g) (gsx g) U H ∧ gsa g < gb g) ∧
  (vk_S 19 strN strB (gk g) (gv g) (A0 g) U H ∧ va_Z "java/lang/String" "COMPACT_STRINGS" "Z" (.int 1) (A0 g) U H ∧ va_Zq "jdk/internal/util/Preconditions" "SIOOBE_FORMATTER" "Ljava/util/function/BiFunction;" (A0 g) U H ∧ va_Z "CascadeBusModel" "KNOWN" "[B" (.ref (gn g)) (A0 g) U H ∧ va_T .byte (gn g) 103 (fun j => .int (knB.getD j 0)) (A0 g) U H)
def OR (g : GG) (U : State) : Prop := (∀ i : Nat, i < 19 → vk_R "CascadeBus$Reader" (strI.getD i 0) (strT.getD i "") (gk g i) U) ∧ va_Nc "java/lang/IllegalArgumentException" "java/util/NoSuchElementException" U
def OF (g : GG) (U : State) : Prop := va_K (gD g) vcl (tys g) U ∧ (∀ w ∈ nws, va_Nw w U) ∧ gb g ≤ U.heap.size ∧ OFh g U U.heap ∧ OR g U
def Cx (g : GG) (M : MI) (p : Program) (s : State) (m : MethodId) (args : Array Value) (meth : Method) (c : Code) : Prop :=
  p.tables.exec = Jvm.exec ∧ c.code = M.2.1 ∧ c.maxLocals = M.2.2.1 ∧ s.vm.findClass M.1.cls = some m.cls ∧ (∀ w ∈ gw, w.before args s = true) ∧ meth.sig.returnType = M.2.2.2.1 ∧ meth.locks = false ∧ meth.name = M.1.name ∧ OF g s ∧ (gl g).stackTraces = false ∧ c.exceptionTable.toList = tableOf M.2.2.2.2
/-- locals: known values; retAddr 0 stands for what isn't known -/
def LH (arr : Array Slot) (n : Nat) (ls : List Value) : Prop := arr.size = n ∧ lv_wf arr ∧ (∀ v ∈ ls, v.category = 1) ∧ ∀ (i : Nat) (v : Value), ls[i]? = some v → v = .retAddr 0 ∨ arr[i]? = some (.val v)
abbrev QT : Type := Option Value ⊕ String → Hp → Prop
def Qc (g : GG) (Q : QT) : Array Value → State → Outcome → State → Prop := fun _ st o t => ∃ (v : Option Value) (h : Hp), o = .returned v ∧ Q (.inl v) h ∧ Rl g h t.heap ∧ va_F (A0 g) st t
def Xc (g : GG) (Q : QT) : String → State → State → Prop := fun E st t => ∃ h : Hp, Q (.inr E) h ∧ Rl g h t.heap ∧ va_F (A0 g) st t
def PW (g : GG) (M : MI) (d kc ks : Nat) (Q : QT) (pc : Nat) (ls st : List Value) (h : Hp) : Prop :=
  ∀ (p : Program) (e : Env) (R : Room) (s : State) (m : MethodId) (args : Array Value) (below : List Frame) (meth : Method) (c : Code) (H : Heap) (locs : List Loc) (cells slots mc ms : Nat) (arr : Array Slot),
    Cx g M p s m args meth c → d ≤ R.frames → 40 * d ≤ R.locals → cells + kc ≤ mc → slots + ks ≤ ms → mc ≤ R.cells → ms ≤ R.slots → Rl g h H → va_S (A0 g) s.heap H locs → LH arr M.2.2.1 ls →
    W p (gl g) e R s m args below meth c H locs cells slots (vx_MQ below (Qc g Q) (Xc g Q) args s mc ms (A0 g)) (F0 m pc arr st)
section
variable {g : GG} {M : MI} {d kc ks : Nat} {Q : QT} {pc : Nat} {ls st : List Value} {h : Hp}
/-- an instruction that moves the operand stack alone -/
theorem PW.go {pc' : Nat} {st' : List Value}
    (hW : ∀ (p : Program) (e : Env) (R : Room) (s : State) (m : MethodId) (args : Array Value) (below : List Frame) (meth : Method) (c : Code) (H : Heap) (locs : List Loc) (cells slots : Nat) (Qf : State → Prop) (arr : Array Slot), p.tables.exec = Jvm.exec → c.code = M.2.1 → LH arr M.2.2.1 ls → W p (gl g) e R s m args below meth c H locs cells slots Qf (F0 m pc' arr st') → W p (gl g) e R s m args below meth c H locs cells slots Qf (F0 m pc arr st))
    (k : PW g M d kc ks Q pc' ls st' h) : PW g M d kc ks Q pc ls st h := by
  intro p e R s m args below meth c H locs cells slots mc ms arr C h1 h2 h3 h4 h5 h6 hR hS hL
  exact hW p e R s m args below meth c H locs cells slots _ arr C.1 C.2.1 hL (k p e R s m args below meth c H locs cells slots mc ms arr C h1 h2 h3 h4 h5 h6 hR hS hL)
/-- a branch -/
theorem PW.go2 {pc1 pc2 : Nat} {st' : List Value} {P1 P2 : Prop}
    (hW : ∀ (p : Program) (e : Env) (R : Room) (s : State) (m : MethodId) (args : Array Value) (below : List Frame) (meth : Method) (c : Code) (H : Heap) (locs : List Loc) (cells slots : Nat) (Qf : State → Prop) (arr : Array Slot), p.tables.exec = Jvm.exec → c.code = M.2.1 → (P1 → W p (gl g) e R s m args below meth c H locs cells slots Qf (F0 m pc1 arr st')) → (P2 → W p (gl g) e R s m args below meth c H locs cells slots Qf (F0 m pc2 arr st')) → W p (gl g) e R s m args below meth c H locs cells slots Qf (F0 m pc arr st))
    (k1 : P1 → PW g M d kc ks Q pc1 ls st' h) (k2 : P2 → PW g M d kc ks Q pc2 ls st' h) : PW g M d kc ks Q pc ls st h := by
  intro p e R s m args below meth c H locs cells slots mc ms arr C h1 h2 h3 h4 h5 h6 hR hS hL
  exact hW p e R s m args below meth c H locs cells slots _ arr C.1 C.2.1 (fun q => k1 q p e R s m args below meth c H locs cells slots mc ms arr C h1 h2 h3 h4 h5 h6 hR hS hL) (fun q => k2 q p e R s m args below meth c H locs cells slots mc ms arr C h1 h2 h3 h4 h5 h6 hR hS hL)
theorem LH.at {arr : Array Slot} {n i : Nat} {v : Value} (hL : LH arr n ls) (hi : ls[i]? = some v) (hv : v ≠ .retAddr 0) : arr[i]? = some (.val v) := (hL.2.2.2 i v hi).resolve_left hv
theorem LH.has {arr : Array Slot} {n : Nat} (hL : LH arr n ls) : lv_has arr n ((List.range ls.length).filterMap (fun i => match ls[i]? with | some v => if v = .retAddr 0 then none else some (i, v) | none => none)) := by
  refine ⟨hL.1, hL.2.1, fun q hq => ?_⟩
  obtain ⟨i, -, hi⟩ := List.mem_filterMap.mp hq
  split at hi
  · rename_i v hv
    split at hi
    · cases hi
    · rename_i hn
      cases hi
      exact hL.at hv hn
  · cases hi
theorem LH.of {arr arr' : Array Slot} {n i : Nat} {v : Value} (hL : LH arr n ls) (hi : i < n) (hc : v.category = 1)
    (h' : lv_has arr' n ((i, v) :: ((List.range ls.length).filterMap (fun i => match ls[i]? with | some v => if v = .retAddr 0 then none else some (i, v) | none => none)).filter (fun q => !(q.1 == i) && !(q.1 + 1 == i && q.2.category == 2)))) : LH arr' n (ls.set i v) := by
  refine ⟨h'.1, h'.2.1, fun w hw => ?_, fun j w hw => ?_⟩
  · rcases List.mem_or_eq_of_mem_set hw with q | q
    · exact hL.2.2.1 w q
    · rw [q]; exact hc
  · rw [List.getElem?_set] at hw
    split at hw
    · rename_i e
      subst e
      split at hw
      · cases hw
        exact Or.inr (h'.2.2 (i, v) List.mem_cons_self)
      · cases hw
    · rename_i hne
      by_cases hs : w = .retAddr 0
      · exact Or.inl hs
      · right
        have hlt : j < ls.length := (List.getElem?_eq_some_iff.mp hw).1
        refine h'.2.2 (j, w) (List.mem_cons_of_mem _ (List.mem_filter.mpr ⟨List.mem_filterMap.mpr ⟨j, List.mem_range.mpr hlt, ?_⟩, ?_⟩))
        · simp [hw, hs]
        · have hc1 := hL.2.2.1 w (List.mem_of_getElem? hw)
          simp [hc1]
          exact fun q => hne q.symm
/-- an instruction that stores a local -/
theorem PW.loc {pc' i : Nat} {st' ls' : List Value} {v : Value} (hi : i < M.2.2.1) (hc : v.category = 1) (hls : ls.set i v = ls')
    (hW : ∀ (p : Program) (e : Env) (R : Room) (s : State) (m : MethodId) (args : Array Value) (below : List Frame) (meth : Method) (c : Code) (H : Heap) (locs : List Loc) (cells slots : Nat) (Qf : State → Prop) (arr : Array Slot), p.tables.exec = Jvm.exec → c.code = M.2.1 → LH arr M.2.2.1 ls → (∀ arr' : Array Slot, lv_has arr' M.2.2.1 ((i, v) :: ((List.range ls.length).filterMap (fun i => match ls[i]? with | some v => if v = .retAddr 0 then none else some (i, v) | none => none)).filter (fun q => !(q.1 == i) && !(q.1 + 1 == i && q.2.category == 2))) → W p (gl g) e R s m args below meth c H locs cells slots Qf (F0 m pc' arr' st')) → W p (gl g) e R s m args below meth c H locs cells slots Qf (F0 m pc arr st))
    (k : PW g M d kc ks Q pc' ls' st' h) : PW g M d kc ks Q pc ls st h := by
  intro p e R s m args below meth c H locs cells slots mc ms arr C h1 h2 h3 h4 h5 h6 hR hS hL
  refine hW p e R s m args below meth c H locs cells slots _ arr C.1 C.2.1 hL (fun arr' h' => ?_)
  exact k p e R s m args below meth c H locs cells slots mc ms arr' C h1 h2 h3 h4 h5 h6 hR hS (hls ▸ hL.of hi hc h')
end
