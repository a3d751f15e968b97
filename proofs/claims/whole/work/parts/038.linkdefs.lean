/-! what a link says (words of the tables) -/
def isNest : Cond → Bool
  | .methodLinkNest _ _ _ _ => true
  | .declares _ => true
  | .castable _ _ => true
  | _ => false
def nws : List Cond := lw_tbl.filter isNest
def FL (own : String) (idx ci kf : Nat) : Prop := ∃ (C : String) (T : u_T) (N : Nat), vcl[ci]? = some (C, T, N) ∧ (∀ w ∈ u_ws C T N, w ∈ gw) ∧ kf < N ∧ Cond.fieldLink own idx (T kf).1 (T kf).2.1 (T kf).2.2.1 ∈ gw
def FP (own : String) (idx ci kf : Nat) (ty : FieldType) (fin : Bool) : Prop := ∃ (C : String) (T : u_T) (N : Nat) (ty0 : Nat → FieldType), vcl[ci]? = some (C, T, N) ∧ (∀ w ∈ u_ws C T N, w ∈ gw) ∧ kf < N ∧ Cond.fieldLink own idx (T kf).1 (T kf).2.1 (T kf).2.2.1 ∈ gw ∧ (∀ k, k < N → parseFieldDescriptor (T k).2.2.1 = some (ty0 k)) ∧ (∀ a, a < N → ∀ b, b < N → a ≠ b → (T a).2.1 ≠ (T b).2.1) ∧ parseFieldDescriptor (T kf).2.2.1 = some ty ∧ (T kf).2.2.2 = fin ∧ (fin = true → (T kf).1 = own)
def mhOK (M' : MI) (n : Nat) : Prop := (M'.1.cls ≠ "java/lang/invoke/MethodHandle" ∧ M'.1.cls ≠ "java/lang/invoke/VarHandle" ∧ (parseMethodDescriptor M'.1.desc).map (fun d => d.parameters.length) = some n) ∧ M'.2.2.1 ≤ 21 ∧ Cond.initialized M'.1.cls ∈ gw ∧ Cond.code M'.1 M'.2.1 M'.2.2.1 M'.2.2.2.1 ∈ gw
def LV (own : String) (idx : Nat) (M' : MI) (n : Nat) : Prop := mhOK M' n ∧ Cond.methodLink own idx M'.1 ∈ gw ∧ Cond.instanceMethod M'.1 ∈ gw ∧ Cond.selects M'.1.cls M'.1 M'.1 ∈ gw
def LVN (own : String) (idx : Nat) (M' : MI) (n : Nat) : Prop := mhOK M' n ∧ (∃ host, Cond.methodLinkNest own idx M'.1 host ∈ nws) ∧ Cond.instanceMethod M'.1 ∈ gw ∧ Cond.selects M'.1.cls M'.1 M'.1 ∈ gw
def LSt (own : String) (idx : Nat) (M' : MI) (n : Nat) : Prop := mhOK M' n ∧ Cond.methodLink own idx M'.1 ∈ gw ∧ Cond.static M'.1 ∈ gw
def LSN (own : String) (idx : Nat) (M' : MI) (n : Nat) : Prop := mhOK M' n ∧ (∃ host, Cond.methodLinkNest own idx M'.1 host ∈ nws) ∧ Cond.static M'.1 ∈ gw
def LI (own : String) (idx : Nat) (M' : MI) (n : Nat) : Prop := mhOK M' n ∧ Cond.methodLink own idx M'.1 ∈ gw ∧ Cond.instanceMethod M'.1 ∈ gw ∧ M'.1.name = "<init>" ∧ M'.2.2.2.1 = none
def LIN (own : String) (idx : Nat) (M' : MI) (n : Nat) : Prop := mhOK M' n ∧ (∃ host, Cond.methodLinkNest own idx M'.1 host ∈ nws) ∧ Cond.instanceMethod M'.1 ∈ gw ∧ M'.1.name = "<init>" ∧ M'.2.2.2.1 = none
