/-! State, Noted, Links, Plan, Layout: their methods as functions (written by wip/whole/c_small.py) -/
section
variable {g : GG} {M : MI} {d kc ks : Nat} {Q : QT} {pc : Nat} {ls st : List Value} {h : Hp}
theorem pw_norm {a n : Nat} {f f' : Nat → Int32} {t : Nat} (hf : ∀ i, i < n → f i = f' i) (k : PW g M d kc ks Q pc ls st (va_up h a (some (.inl (gc g t, n, .inl f'))))) : PW g M d kc ks Q pc ls st (va_up h a (some (.inl (gc g t, n, .inl f)))) := by
  intro p e R s m args below meth c H locs cells slots mc ms arr C h1 h2 h3 h4 h5 h6 hR hS hL
  refine k p e R s m args below meth c H locs cells slots mc ms arr C h1 h2 h3 h4 h5 h6 ?_ hS hL
  obtain ⟨ws, hP, hD, hw⟩ := hR
  obtain ⟨q0, hq⟩ := hw a _ up_same
  have e1 : vp_cell (gc g t) (n, .inl f) = vp_cell (gc g t) (n, .inl f') := by
    show arrV _ n (fun j => .int (f j)) = arrV _ n (fun j => .int (f' j))
    unfold arrV
    congr 1
    congr 1
    funext j
    exact congrArg Value.int (hf j.val j.isLt)
  refine ⟨ws.set q0 (a, .inl (gc g t, n, .inl f')), ?_, hD.set hq, fun x e hx => ?_⟩
  · intro k q hk
    rw [List.getElem?_set] at hk
    split at hk
    · rename_i e2
      subst e2
      split at hk
      · cases hk
        have h0 := hP q0 _ hq
        show H[a]? = some (vp_cell _ _)
        rw [← e1]; exact h0
      · cases hk
    · exact hP k q hk
  · by_cases hxa : x = a
    · subst hxa
      rw [up_same] at hx
      cases hx
      exact ⟨q0, by rw [List.getElem?_set_self (List.getElem?_eq_some_iff.mp hq).1]⟩
    · have hx2 : va_up h a (some (.inl (gc g t, n, .inl f))) x = some e := by
        rw [← hx]; simp [va_up, hxa]
      obtain ⟨k, hk⟩ := hw x e hx2
      refine ⟨k, ?_⟩
      rw [List.getElem?_set_ne, hk]
      intro e2
      subst e2
      rw [hq] at hk
      cases hk
      exact hxa rfl
end
def f_State_isOn (c : Nat → Int32) (x : Int32) : Int32 :=
  f_Bus_hasBit (c 220) x
set_option maxRecDepth 4000 in
theorem w_State_isOn_0 {g : GG} {Q : QT} {h : Hp} {kc ks : Nat} (hst : (gl g).stackTraces = false) {o s : Nat} (ho : h o = some (.inr (8, [.ref s]))) (c : Nat → Int32) (hs : h s = some (aI g 225 c)) (x : Int32)  (hk : Q (.inl (some (.int (f_State_isOn c x)))) h) : PW g M_State_isOn 1 kc ks Q 0 [.ref (o), .int (x)] [] h := by
  refine pw_aload_n e_State_isOn_0 rfl ?_
  refine pw_getf e_State_isOn_1 fl_State_9 ho rfl ?_
  refine pw_sipush (v := nI 220) e_State_isOn_4 (by decide) ?_
  refine pw_ialdN e_State_isOn_7 hs (by omega) (by decide) ?_
  refine pw_iload_n e_State_isOn_8 rfl ?_
  refine pw_detSN (As := [.int (c 220), .int (x)]) e_State_isOn_9 li_State_39 (q_Bus_hasBit hst (c 220) x) rfl (by decide) (Nat.le_of_ble_eq_true rfl) rfl ?_
  refine pw_iret e_State_isOn_12 rfl (by unfold f_Bus_hasBit; split <;> decide) ?_
  rw [f_State_isOn] at hk
  exact hk
theorem q_State_isOn {g : GG} {h : Hp} (hst : (gl g).stackTraces = false) {o s : Nat} (ho : h o = some (.inr (8, [.ref s]))) (c : Nat → Int32) (hs : h s = some (aI g 225 c)) (x : Int32)  : PM g M_State_isOn 1 0 0 [.ref (o), .int (x)] h (RetV (some (.int (f_State_isOn c x))) h) := by
  refine PM.of hst (by decide) rfl (fun v hv => ?_) (Nat.le_of_ble_eq_true rfl) ?_
  · simp only [List.mem_cons, List.not_mem_nil, or_false] at hv; rcases hv with rfl | rfl <;> rfl
  · have hq := w_State_isOn_0 (g := g) (Q := RetV (some (.int (f_State_isOn c x))) h) (h := h) (kc := 0) (ks := 0) hst ho c hs x ?_
    · exact hq
    · exact ⟨rfl, rfl⟩

def f_State_isBroken (c : Nat → Int32) (x : Int32) : Int32 :=
  f_Bus_hasBit (c 219) x
set_option maxRecDepth 4000 in
theorem w_State_isBroken_0 {g : GG} {Q : QT} {h : Hp} {kc ks : Nat} (hst : (gl g).stackTraces = false) {o s : Nat} (ho : h o = some (.inr (8, [.ref s]))) (c : Nat → Int32) (hs : h s = some (aI g 225 c)) (x : Int32)  (hk : Q (.inl (some (.int (f_State_isBroken c x)))) h) : PW g M_State_isBroken 1 kc ks Q 0 [.ref (o), .int (x)] [] h := by
  refine pw_aload_n e_State_isBroken_0 rfl ?_
  refine pw_getf e_State_isBroken_1 fl_State_9 ho rfl ?_
  refine pw_sipush (v := nI 219) e_State_isBroken_4 (by decide) ?_
  refine pw_ialdN e_State_isBroken_7 hs (by omega) (by decide) ?_
  refine pw_iload_n e_State_isBroken_8 rfl ?_
  refine pw_detSN (As := [.int (c 219), .int (x)]) e_State_isBroken_9 li_State_39 (q_Bus_hasBit hst (c 219) x) rfl (by decide) (Nat.le_of_ble_eq_true rfl) rfl ?_
  refine pw_iret e_State_isBroken_12 rfl (by unfold f_Bus_hasBit; split <;> decide) ?_
  rw [f_State_isBroken] at hk
  exact hk
theorem q_State_isBroken {g : GG} {h : Hp} (hst : (gl g).stackTraces = false) {o s : Nat} (ho : h o = some (.inr (8, [.ref s]))) (c : Nat → Int32) (hs : h s = some (aI g 225 c)) (x : Int32)  : PM g M_State_isBroken 1 0 0 [.ref (o), .int (x)] h (RetV (some (.int (f_State_isBroken c x))) h) := by
  refine PM.of hst (by decide) rfl (fun v hv => ?_) (Nat.le_of_ble_eq_true rfl) ?_
  · simp only [List.mem_cons, List.not_mem_nil, or_false] at hv; rcases hv with rfl | rfl <;> rfl
  · have hq := w_State_isBroken_0 (g := g) (Q := RetV (some (.int (f_State_isBroken c x))) h) (h := h) (kc := 0) (ks := 0) hst ho c hs x ?_
    · exact hq
    · exact ⟨rfl, rfl⟩

def f_State_switchDevice (x y z : Int32) (c : Nat → Int32) : Nat → Int32 :=
  if y = 0 then if ((upd c 220 ((c 220) &&& (((1 : Int32) <<< (x &&& 31)) ^^^ ((-1))))) 221) = x then upd (upd (upd c 220 ((c 220) &&& (((1 : Int32) <<< (x &&& 31)) ^^^ ((-1))))) 221 ((-1))) 222 z else upd c 220 ((c 220) &&& (((1 : Int32) <<< (x &&& 31)) ^^^ ((-1)))) else upd c 220 ((c 220) ||| ((1 : Int32) <<< (x &&& 31)))
set_option maxRecDepth 4000 in
theorem w_State_switchDevice_0 {g : GG} {Q : QT} {h : Hp} {kc ks : Nat} (hst : (gl g).stackTraces = false) {o s : Nat} (ho : ∀ e, va_up h s e o = some (.inr (8, [.ref s]))) (x y z : Int32)  (c : Nat → Int32) (hk : Q (.inl none) (va_up h s (some (aI g 225 (f_State_switchDevice x y z c))))) : PW g M_State_switchDevice 0 kc ks Q 0 [.ref (o), .int (x), .int (y), .int (z)] [] (va_up h s (some (aI g 225 (c)))) := by
  refine pw_iload_n e_State_switchDevice_0 rfl ?_
  refine pw_if_eq (tgt := 19) e_State_switchDevice_1 (by decide) (fun (H1 : y = 0) => ?_) (fun (H1 : ¬ y = 0) => ?_)
  · refine pw_aload_n e_State_switchDevice_19 rfl ?_
    refine pw_getf e_State_switchDevice_20 fl_State_9 (ho _) rfl ?_
    refine pw_sipush (v := nI 220) e_State_switchDevice_23 (by decide) ?_
    refine pw_dup2 e_State_switchDevice_26 rfl rfl ?_
    refine pw_ialdN e_State_switchDevice_27 up_same (by omega) (by decide) ?_
    refine pw_iconst (v := nI 1) e_State_switchDevice_28 (by decide) ?_
    refine pw_iload_n e_State_switchDevice_29 rfl ?_
    refine pw_ishl e_State_switchDevice_30 ?_
    refine pw_iconst (v := (-1)) e_State_switchDevice_31 (by decide) ?_
    refine pw_ixor e_State_switchDevice_32 ?_
    refine pw_iand e_State_switchDevice_33 ?_
    refine pw_iastU e_State_switchDevice_34 (by omega) (by decide) ?_
    refine pw_aload_n e_State_switchDevice_35 rfl ?_
    refine pw_getf e_State_switchDevice_36 fl_State_9 (ho _) rfl ?_
    refine pw_sipush (v := nI 221) e_State_switchDevice_39 (by decide) ?_
    refine pw_ialdN e_State_switchDevice_42 up_same (by omega) (by decide) ?_
    refine pw_iload_n e_State_switchDevice_43 rfl ?_
    refine pw_icmp_ne (tgt := 65) e_State_switchDevice_44 (by decide) (fun (H2 : ¬ ((upd c 220 ((c 220) &&& (((1 : Int32) <<< (x &&& 31)) ^^^ ((-1))))) 221) = x) => ?_) (fun (H2 : ((upd c 220 ((c 220) &&& (((1 : Int32) <<< (x &&& 31)) ^^^ ((-1))))) 221) = x) => ?_)
    · refine pw_vret e_State_switchDevice_65 rfl ?_
      rw [f_State_switchDevice, if_pos H1, if_neg H2] at hk
      exact hk
    · refine pw_aload_n e_State_switchDevice_47 rfl ?_
      refine pw_getf e_State_switchDevice_48 fl_State_9 (ho _) rfl ?_
      refine pw_sipush (v := nI 221) e_State_switchDevice_51 (by decide) ?_
      refine pw_iconst (v := (-1)) e_State_switchDevice_54 (by decide) ?_
      refine pw_iastU e_State_switchDevice_55 (by omega) (by decide) ?_
      refine pw_aload_n e_State_switchDevice_56 rfl ?_
      refine pw_getf e_State_switchDevice_57 fl_State_9 (ho _) rfl ?_
      refine pw_sipush (v := nI 222) e_State_switchDevice_60 (by decide) ?_
      refine pw_iload_n e_State_switchDevice_63 rfl ?_
      refine pw_iastU e_State_switchDevice_64 (by omega) (by decide) ?_
      refine pw_vret e_State_switchDevice_65 rfl ?_
      rw [f_State_switchDevice, if_pos H1, if_pos H2] at hk
      exact hk
  · refine pw_aload_n e_State_switchDevice_4 rfl ?_
    refine pw_getf e_State_switchDevice_5 fl_State_9 (ho _) rfl ?_
    refine pw_sipush (v := nI 220) e_State_switchDevice_8 (by decide) ?_
    refine pw_dup2 e_State_switchDevice_11 rfl rfl ?_
    refine pw_ialdN e_State_switchDevice_12 up_same (by omega) (by decide) ?_
    refine pw_iconst (v := nI 1) e_State_switchDevice_13 (by decide) ?_
    refine pw_iload_n e_State_switchDevice_14 rfl ?_
    refine pw_ishl e_State_switchDevice_15 ?_
    refine pw_ior e_State_switchDevice_16 ?_
    refine pw_iastU e_State_switchDevice_17 (by omega) (by decide) ?_
    refine pw_vret e_State_switchDevice_18 rfl ?_
    rw [f_State_switchDevice, if_neg H1] at hk
    exact hk
theorem q_State_switchDevice {g : GG} {h : Hp} (hst : (gl g).stackTraces = false) {o s : Nat} (ho : ∀ e, va_up h s e o = some (.inr (8, [.ref s]))) (x y z : Int32)  (c : Nat → Int32) (hm : h s = some (aI g 225 c)) : PM g M_State_switchDevice 0 0 0 [.ref (o), .int (x), .int (y), .int (z)] h (RetV none (va_up h s (some (aI g 225 (f_State_switchDevice x y z c))))) := by
  refine PM.of hst (by decide) rfl (fun v hv => ?_) (Nat.le_of_ble_eq_true rfl) ?_
  · simp only [List.mem_cons, List.not_mem_nil, or_false] at hv; rcases hv with rfl | rfl | rfl | rfl <;> rfl
  · have hq := w_State_switchDevice_0 (g := g) (Q := RetV none (va_up h s (some (aI g 225 (f_State_switchDevice x y z c))))) (h := h) (kc := 0) (ks := 0) (s := s) hst ho x y z c ?_
    · rw [up_self hm] at hq; exact hq
    · exact ⟨rfl, rfl⟩

def f_State_turnSensor (x : Int32) (c : Nat → Int32) : Nat → Int32 :=
  upd c 219 ((c 219) ^^^ ((1 : Int32) <<< (x &&& 31)))
set_option maxRecDepth 4000 in
theorem w_State_turnSensor_0 {g : GG} {Q : QT} {h : Hp} {kc ks : Nat} (hst : (gl g).stackTraces = false) {o s : Nat} (ho : ∀ e, va_up h s e o = some (.inr (8, [.ref s]))) (x : Int32)  (c : Nat → Int32) (hk : Q (.inl none) (va_up h s (some (aI g 225 (f_State_turnSensor x c))))) : PW g M_State_turnSensor 0 kc ks Q 0 [.ref (o), .int (x)] [] (va_up h s (some (aI g 225 (c)))) := by
  refine pw_aload_n e_State_turnSensor_0 rfl ?_
  refine pw_getf e_State_turnSensor_1 fl_State_9 (ho _) rfl ?_
  refine pw_sipush (v := nI 219) e_State_turnSensor_4 (by decide) ?_
  refine pw_dup2 e_State_turnSensor_7 rfl rfl ?_
  refine pw_ialdN e_State_turnSensor_8 up_same (by omega) (by decide) ?_
  refine pw_iconst (v := nI 1) e_State_turnSensor_9 (by decide) ?_
  refine pw_iload_n e_State_turnSensor_10 rfl ?_
  refine pw_ishl e_State_turnSensor_11 ?_
  refine pw_ixor e_State_turnSensor_12 ?_
  refine pw_iastU e_State_turnSensor_13 (by omega) (by decide) ?_
  refine pw_vret e_State_turnSensor_14 rfl ?_
  rw [f_State_turnSensor] at hk
  exact hk
theorem q_State_turnSensor {g : GG} {h : Hp} (hst : (gl g).stackTraces = false) {o s : Nat} (ho : ∀ e, va_up h s e o = some (.inr (8, [.ref s]))) (x : Int32)  (c : Nat → Int32) (hm : h s = some (aI g 225 c)) : PM g M_State_turnSensor 0 0 0 [.ref (o), .int (x)] h (RetV none (va_up h s (some (aI g 225 (f_State_turnSensor x c))))) := by
  refine PM.of hst (by decide) rfl (fun v hv => ?_) (Nat.le_of_ble_eq_true rfl) ?_
  · simp only [List.mem_cons, List.not_mem_nil, or_false] at hv; rcases hv with rfl | rfl <;> rfl
  · have hq := w_State_turnSensor_0 (g := g) (Q := RetV none (va_up h s (some (aI g 225 (f_State_turnSensor x c))))) (h := h) (kc := 0) (ks := 0) (s := s) hst ho x c ?_
    · rw [up_self hm] at hq; exact hq
    · exact ⟨rfl, rfl⟩

def f_State_canTell_39 (P : Nat → Nat → Int32) (c : Nat → Int32) (b : Nat) (x : Int32) (gr : Int32) : Int32 :=
  if x < 0 then 0 else if gr < x then 0 else if (c ((b * 9) + 0)) = x then 0 else 1
set_option maxRecDepth 4000 in
theorem w_State_canTell_39 {g : GG} {Q : QT} {h : Hp} {kc ks : Nat} (hst : (gl g).stackTraces = false) {o s : Nat} (ho : h o = some (.inr (8, [.ref s]))) (c : Nat → Int32) (hs : h s = some (aI g 225 c)) {p : Nat} {ad : Nat → Nat} {P : Nat → Nat → Int32} (hP : PlanAt g p ad P h) (hw : wfP P) (b : Nat) (x : Int32) (hb : b < 10)  (gr : Int32) (hk : Q (.inl (some (.int (f_State_canTell_39 P c b x gr)))) h) : PW g M_State_canTell 0 kc ks Q 39 [.ref (o), .ref (p), .int (nI (b)), .int (x), .retAddr 0, .int (gr)] [] h := by
  refine pw_iload_n e_State_canTell_39 rfl ?_
  refine pw_if_lt (tgt := 68) e_State_canTell_40 (by decide) (fun (H1 : x < 0) => ?_) (fun (H1 : ¬ x < 0) => ?_)
  · refine pw_iconst (v := nI 0) e_State_canTell_68 (by decide) ?_
    refine pw_iret e_State_canTell_69 rfl (by decide) ?_
    rw [f_State_canTell_39, if_pos H1] at hk
    exact hk
  · refine pw_iload_n e_State_canTell_43 rfl ?_
    refine pw_iload e_State_canTell_44 rfl ?_
    refine pw_icmp_gt (tgt := 68) e_State_canTell_46 (by decide) (fun (H2 : gr < x) => ?_) (fun (H2 : ¬ gr < x) => ?_)
    · refine pw_iconst (v := nI 0) e_State_canTell_68 (by decide) ?_
      refine pw_iret e_State_canTell_69 rfl (by decide) ?_
      rw [f_State_canTell_39, if_neg H1, if_pos H2] at hk
      exact hk
    · refine pw_aload_n e_State_canTell_49 rfl ?_
      refine pw_getf e_State_canTell_50 fl_State_9 ho rfl ?_
      refine pw_iload_n e_State_canTell_53 rfl ?_
      refine pw_bipush (v := nI 9) e_State_canTell_54 (by decide) ?_
      refine pw_imulN e_State_canTell_56 ?_
      refine pw_iconst (v := nI 0) e_State_canTell_57 (by decide) ?_
      refine pw_iaddN e_State_canTell_58 ?_
      refine pw_ialdN e_State_canTell_59 hs (by omega) (by decide) ?_
      refine pw_iload_n e_State_canTell_60 rfl ?_
      refine pw_icmp_eq (tgt := 68) e_State_canTell_61 (by decide) (fun (H3 : (c ((b * 9) + 0)) = x) => ?_) (fun (H3 : ¬ (c ((b * 9) + 0)) = x) => ?_)
      · refine pw_iconst (v := nI 0) e_State_canTell_68 (by decide) ?_
        refine pw_iret e_State_canTell_69 rfl (by decide) ?_
        rw [f_State_canTell_39, if_neg H1, if_neg H2, if_pos H3] at hk
        exact hk
      · refine pw_iconst (v := nI 1) e_State_canTell_64 (by decide) ?_
        refine pw_goto (tgt := 69) e_State_canTell_65 (by decide) ?_
        refine pw_iret e_State_canTell_69 rfl (by decide) ?_
        rw [f_State_canTell_39, if_neg H1, if_neg H2, if_neg H3] at hk
        exact hk
def f_State_canTell_27 (P : Nat → Nat → Int32) (c : Nat → Int32) (b : Nat) (x : Int32) (ca : Int32) : Int32 :=
  if ca = 0 then f_State_canTell_39 P c b x 2 else f_State_canTell_39 P c b x 3
set_option maxRecDepth 4000 in
theorem w_State_canTell_27 {g : GG} {Q : QT} {h : Hp} {kc ks : Nat} (hst : (gl g).stackTraces = false) {o s : Nat} (ho : h o = some (.inr (8, [.ref s]))) (c : Nat → Int32) (hs : h s = some (aI g 225 c)) {p : Nat} {ad : Nat → Nat} {P : Nat → Nat → Int32} (hP : PlanAt g p ad P h) (hw : wfP P) (b : Nat) (x : Int32) (hb : b < 10)  (ca : Int32) (hk : Q (.inl (some (.int (f_State_canTell_27 P c b x ca)))) h) : PW g M_State_canTell 0 kc ks Q 27 [.ref (o), .ref (p), .int (nI (b)), .int (x), .int (ca), .retAddr 0] [] h := by
  refine pw_iload e_State_canTell_27 rfl ?_
  refine pw_if_eq (tgt := 36) e_State_canTell_29 (by decide) (fun (H1 : ca = 0) => ?_) (fun (H1 : ¬ ca = 0) => ?_)
  · refine pw_iconst (v := nI 2) e_State_canTell_36 (by decide) ?_
    refine pw_istore (ls2 := [_, _, _, _, _, _]) e_State_canTell_37 (by decide) rfl ?_
    refine pw_fgt (ls' := [.ref (o), .ref (p), .int (nI (b)), .int (x), .retAddr 0, .int (nI (2))]) ⟨Or.inr rfl, Or.inr rfl, Or.inr rfl, Or.inr rfl, Or.inl rfl, Or.inr rfl, trivial⟩ ?_
    refine w_State_canTell_39 hst ho c hs hP hw b x hb 2 ?_
    rw [f_State_canTell_27, if_pos H1] at hk
    exact hk
  · refine pw_iconst (v := nI 3) e_State_canTell_32 (by decide) ?_
    refine pw_goto (tgt := 37) e_State_canTell_33 (by decide) ?_
    refine pw_istore (ls2 := [_, _, _, _, _, _]) e_State_canTell_37 (by decide) rfl ?_
    refine pw_fgt (ls' := [.ref (o), .ref (p), .int (nI (b)), .int (x), .retAddr 0, .int (nI (3))]) ⟨Or.inr rfl, Or.inr rfl, Or.inr rfl, Or.inr rfl, Or.inl rfl, Or.inr rfl, trivial⟩ ?_
    refine w_State_canTell_39 hst ho c hs hP hw b x hb 3 ?_
    rw [f_State_canTell_27, if_neg H1] at hk
    exact hk
def f_State_canTell (P : Nat → Nat → Int32) (c : Nat → Int32) (b : Nat) (x : Int32) : Int32 :=
  if (pN P 0 b) = 1 then f_State_canTell_27 P c b x 1 else if (pN P 0 b) = 2 then f_State_canTell_27 P c b x 1 else f_State_canTell_27 P c b x 0
set_option maxRecDepth 4000 in
theorem w_State_canTell_0 {g : GG} {Q : QT} {h : Hp} {kc ks : Nat} (hst : (gl g).stackTraces = false) {o s : Nat} (ho : h o = some (.inr (8, [.ref s]))) (c : Nat → Int32) (hs : h s = some (aI g 225 c)) {p : Nat} {ad : Nat → Nat} {P : Nat → Nat → Int32} (hP : PlanAt g p ad P h) (hw : wfP P) (b : Nat) (x : Int32) (hb : b < 10)  (hk : Q (.inl (some (.int (f_State_canTell P c b x)))) h) : PW g M_State_canTell 0 kc ks Q 0 [.ref (o), .ref (p), .int (nI (b)), .int (x), .retAddr 0, .retAddr 0] [] h := by
  refine pw_aload_n e_State_canTell_0 rfl ?_
  refine pw_getf e_State_canTell_1 fl_State_43 hP.o rfl ?_
  refine pw_iload_n e_State_canTell_4 rfl ?_
  have hb1 := hw.kind b
  refine pw_ialdC e_State_canTell_5 hP.a0 (by omega) (by decide) hb1.1 ?_
  replace hb1 := hb1.2
  refine pw_iconst (v := nI 1) e_State_canTell_6 (by decide) ?_
  refine pw_icmp_eqN (tgt := 20) e_State_canTell_7 (by decide) (by omega) (by omega) (fun (H2 : (pN P 0 b) = 1) => ?_) (fun (H2 : ¬ (pN P 0 b) = 1) => ?_)
  · refine pw_iconst (v := nI 1) e_State_canTell_20 (by decide) ?_
    refine pw_goto (tgt := 25) e_State_canTell_21 (by decide) ?_
    refine pw_istore (ls2 := [_, _, _, _, _, _]) e_State_canTell_25 (by decide) rfl ?_
    refine w_State_canTell_27 hst ho c hs hP hw b x hb 1 ?_
    rw [f_State_canTell, if_pos H2] at hk
    exact hk
  · refine pw_aload_n e_State_canTell_10 rfl ?_
    refine pw_getf e_State_canTell_11 fl_State_43 hP.o rfl ?_
    refine pw_iload_n e_State_canTell_14 rfl ?_
    have hb3 := hw.kind b
    refine pw_ialdC e_State_canTell_15 hP.a0 (by omega) (by decide) hb3.1 ?_
    replace hb3 := hb3.2
    refine pw_iconst (v := nI 2) e_State_canTell_16 (by decide) ?_
    refine pw_icmp_neN (tgt := 24) e_State_canTell_17 (by decide) (by omega) (by omega) (fun (H4 : ¬ (pN P 0 b) = 2) => ?_) (fun (H4 : (pN P 0 b) = 2) => ?_)
    · refine pw_iconst (v := nI 0) e_State_canTell_24 (by decide) ?_
      refine pw_istore (ls2 := [_, _, _, _, _, _]) e_State_canTell_25 (by decide) rfl ?_
      refine w_State_canTell_27 hst ho c hs hP hw b x hb 0 ?_
      rw [f_State_canTell, if_neg H2, if_neg H4] at hk
      exact hk
    · refine pw_iconst (v := nI 1) e_State_canTell_20 (by decide) ?_
      refine pw_goto (tgt := 25) e_State_canTell_21 (by decide) ?_
      refine pw_istore (ls2 := [_, _, _, _, _, _]) e_State_canTell_25 (by decide) rfl ?_
      refine w_State_canTell_27 hst ho c hs hP hw b x hb 1 ?_
      rw [f_State_canTell, if_neg H2, if_pos H4] at hk
      exact hk
theorem q_State_canTell {g : GG} {h : Hp} (hst : (gl g).stackTraces = false) {o s : Nat} (ho : h o = some (.inr (8, [.ref s]))) (c : Nat → Int32) (hs : h s = some (aI g 225 c)) {p : Nat} {ad : Nat → Nat} {P : Nat → Nat → Int32} (hP : PlanAt g p ad P h) (hw : wfP P) (b : Nat) (x : Int32) (hb : b < 10)  : PM g M_State_canTell 0 0 0 [.ref (o), .ref (p), .int (nI (b)), .int (x)] h (RetV (some (.int (f_State_canTell P c b x))) h) := by
  refine PM.of hst (by decide) rfl (fun v hv => ?_) (Nat.le_of_ble_eq_true rfl) ?_
  · simp only [List.mem_cons, List.not_mem_nil, or_false] at hv; rcases hv with rfl | rfl | rfl | rfl <;> rfl
  · have hq := w_State_canTell_0 (g := g) (Q := RetV (some (.int (f_State_canTell P c b x))) h) (h := h) (kc := 0) (ks := 0) hst ho c hs hP hw b x hb ?_
    · exact hq
    · exact ⟨rfl, rfl⟩

def f_State_handCell (P : Nat → Nat → Int32) (c : Nat → Int32) (b : Nat) : Int32 :=
  if (c ((b * 9) + 1)) = 1 then nI ((b * 9) + 3) else if (pN P 0 b) = 1 then if (c ((b * 9) + 1)) = 2 then nI ((b * 9) + 2) else (-1) else if (pN P 0 b) = 2 then if (c ((b * 9) + 1)) = 2 then nI ((b * 9) + 2) else (-1) else (-1)
set_option maxRecDepth 4000 in
theorem w_State_handCell_0 {g : GG} {Q : QT} {h : Hp} {kc ks : Nat} (hst : (gl g).stackTraces = false) {o s : Nat} (ho : h o = some (.inr (8, [.ref s]))) (c : Nat → Int32) (hs : h s = some (aI g 225 c)) {p : Nat} {ad : Nat → Nat} {P : Nat → Nat → Int32} (hP : PlanAt g p ad P h) (hw : wfP P) (b : Nat) (hb : b < 10)  (hk : Q (.inl (some (.int (f_State_handCell P c b)))) h) : PW g M_State_handCell 0 kc ks Q 0 [.ref (o), .ref (p), .int (nI (b)), .retAddr 0, .retAddr 0] [] h := by
  refine pw_iload_n e_State_handCell_0 rfl ?_
  refine pw_bipush (v := nI 9) e_State_handCell_1 (by decide) ?_
  refine pw_imulN e_State_handCell_3 ?_
  refine pw_istore_n (ls2 := [_, _, _, _, _]) e_State_handCell_4 (by decide) rfl ?_
  refine pw_aload_n e_State_handCell_5 rfl ?_
  refine pw_getf e_State_handCell_6 fl_State_9 ho rfl ?_
  refine pw_iload_n e_State_handCell_9 rfl ?_
  refine pw_iconst (v := nI 1) e_State_handCell_10 (by decide) ?_
  refine pw_iaddN e_State_handCell_11 ?_
  refine pw_ialdN e_State_handCell_12 hs (by omega) (by decide) ?_
  refine pw_iconst (v := nI 1) e_State_handCell_13 (by decide) ?_
  refine pw_icmp_ne (tgt := 21) e_State_handCell_14 (by decide) (fun (H1 : ¬ (c ((b * 9) + 1)) = 1) => ?_) (fun (H1 : (c ((b * 9) + 1)) = 1) => ?_)
  · refine pw_aload_n e_State_handCell_21 rfl ?_
    refine pw_getf e_State_handCell_22 fl_State_43 hP.o rfl ?_
    refine pw_iload_n e_State_handCell_25 rfl ?_
    have hb2 := hw.kind b
    refine pw_ialdC e_State_handCell_26 hP.a0 (by omega) (by decide) hb2.1 ?_
    replace hb2 := hb2.2
    refine pw_iconst (v := nI 1) e_State_handCell_27 (by decide) ?_
    refine pw_icmp_eqN (tgt := 41) e_State_handCell_28 (by decide) (by omega) (by omega) (fun (H3 : (pN P 0 b) = 1) => ?_) (fun (H3 : ¬ (pN P 0 b) = 1) => ?_)
    · refine pw_iconst (v := nI 1) e_State_handCell_41 (by decide) ?_
      refine pw_goto (tgt := 46) e_State_handCell_42 (by decide) ?_
      refine pw_istore (ls2 := [_, _, _, _, _]) e_State_handCell_46 (by decide) rfl ?_
      refine pw_iload e_State_handCell_48 rfl ?_
      refine pw_if_eq (tgt := 71) e_State_handCell_50 (by decide) (fun (H4 : 1 = 0) => ?_) (fun (H4 : ¬ 1 = 0) => ?_)
      · exact absurd H4 (by decide)
      · refine pw_aload_n e_State_handCell_53 rfl ?_
        refine pw_getf e_State_handCell_54 fl_State_9 ho rfl ?_
        refine pw_iload_n e_State_handCell_57 rfl ?_
        refine pw_iconst (v := nI 1) e_State_handCell_58 (by decide) ?_
        refine pw_iaddN e_State_handCell_59 ?_
        refine pw_ialdN e_State_handCell_60 hs (by omega) (by decide) ?_
        refine pw_iconst (v := nI 2) e_State_handCell_61 (by decide) ?_
        refine pw_icmp_ne (tgt := 71) e_State_handCell_62 (by decide) (fun (H5 : ¬ (c ((b * 9) + 1)) = 2) => ?_) (fun (H5 : (c ((b * 9) + 1)) = 2) => ?_)
        · refine pw_iconst (v := (-1)) e_State_handCell_71 (by decide) ?_
          refine pw_iret e_State_handCell_72 rfl rfl ?_
          rw [f_State_handCell, if_neg H1, if_pos H3, if_neg H5] at hk
          exact hk
        · refine pw_iload_n e_State_handCell_65 rfl ?_
          refine pw_iconst (v := nI 2) e_State_handCell_66 (by decide) ?_
          refine pw_iaddN e_State_handCell_67 ?_
          refine pw_goto (tgt := 72) e_State_handCell_68 (by decide) ?_
          refine pw_iret e_State_handCell_72 rfl rfl ?_
          rw [f_State_handCell, if_neg H1, if_pos H3, if_pos H5] at hk
          exact hk
    · refine pw_aload_n e_State_handCell_31 rfl ?_
      refine pw_getf e_State_handCell_32 fl_State_43 hP.o rfl ?_
      refine pw_iload_n e_State_handCell_35 rfl ?_
      have hb6 := hw.kind b
      refine pw_ialdC e_State_handCell_36 hP.a0 (by omega) (by decide) hb6.1 ?_
      replace hb6 := hb6.2
      refine pw_iconst (v := nI 2) e_State_handCell_37 (by decide) ?_
      refine pw_icmp_neN (tgt := 45) e_State_handCell_38 (by decide) (by omega) (by omega) (fun (H7 : ¬ (pN P 0 b) = 2) => ?_) (fun (H7 : (pN P 0 b) = 2) => ?_)
      · refine pw_iconst (v := nI 0) e_State_handCell_45 (by decide) ?_
        refine pw_istore (ls2 := [_, _, _, _, _]) e_State_handCell_46 (by decide) rfl ?_
        refine pw_iload e_State_handCell_48 rfl ?_
        refine pw_if_eq (tgt := 71) e_State_handCell_50 (by decide) (fun (H8 : 0 = 0) => ?_) (fun (H8 : ¬ 0 = 0) => ?_)
        · refine pw_iconst (v := (-1)) e_State_handCell_71 (by decide) ?_
          refine pw_iret e_State_handCell_72 rfl rfl ?_
          rw [f_State_handCell, if_neg H1, if_neg H3, if_neg H7] at hk
          exact hk
        · exact absurd H8 (by decide)
      · refine pw_iconst (v := nI 1) e_State_handCell_41 (by decide) ?_
        refine pw_goto (tgt := 46) e_State_handCell_42 (by decide) ?_
        refine pw_istore (ls2 := [_, _, _, _, _]) e_State_handCell_46 (by decide) rfl ?_
        refine pw_iload e_State_handCell_48 rfl ?_
        refine pw_if_eq (tgt := 71) e_State_handCell_50 (by decide) (fun (H9 : 1 = 0) => ?_) (fun (H9 : ¬ 1 = 0) => ?_)
        · exact absurd H9 (by decide)
        · refine pw_aload_n e_State_handCell_53 rfl ?_
          refine pw_getf e_State_handCell_54 fl_State_9 ho rfl ?_
          refine pw_iload_n e_State_handCell_57 rfl ?_
          refine pw_iconst (v := nI 1) e_State_handCell_58 (by decide) ?_
          refine pw_iaddN e_State_handCell_59 ?_
          refine pw_ialdN e_State_handCell_60 hs (by omega) (by decide) ?_
          refine pw_iconst (v := nI 2) e_State_handCell_61 (by decide) ?_
          refine pw_icmp_ne (tgt := 71) e_State_handCell_62 (by decide) (fun (H10 : ¬ (c ((b * 9) + 1)) = 2) => ?_) (fun (H10 : (c ((b * 9) + 1)) = 2) => ?_)
          · refine pw_iconst (v := (-1)) e_State_handCell_71 (by decide) ?_
            refine pw_iret e_State_handCell_72 rfl rfl ?_
            rw [f_State_handCell, if_neg H1, if_neg H3, if_pos H7, if_neg H10] at hk
            exact hk
          · refine pw_iload_n e_State_handCell_65 rfl ?_
            refine pw_iconst (v := nI 2) e_State_handCell_66 (by decide) ?_
            refine pw_iaddN e_State_handCell_67 ?_
            refine pw_goto (tgt := 72) e_State_handCell_68 (by decide) ?_
            refine pw_iret e_State_handCell_72 rfl rfl ?_
            rw [f_State_handCell, if_neg H1, if_neg H3, if_pos H7, if_pos H10] at hk
            exact hk
  · refine pw_iload_n e_State_handCell_17 rfl ?_
    refine pw_iconst (v := nI 3) e_State_handCell_18 (by decide) ?_
    refine pw_iaddN e_State_handCell_19 ?_
    refine pw_iret e_State_handCell_20 rfl rfl ?_
    rw [f_State_handCell, if_pos H1] at hk
    exact hk
theorem q_State_handCell {g : GG} {h : Hp} (hst : (gl g).stackTraces = false) {o s : Nat} (ho : h o = some (.inr (8, [.ref s]))) (c : Nat → Int32) (hs : h s = some (aI g 225 c)) {p : Nat} {ad : Nat → Nat} {P : Nat → Nat → Int32} (hP : PlanAt g p ad P h) (hw : wfP P) (b : Nat) (hb : b < 10)  : PM g M_State_handCell 0 0 0 [.ref (o), .ref (p), .int (nI (b))] h (RetV (some (.int (f_State_handCell P c b))) h) := by
  refine PM.of hst (by decide) rfl (fun v hv => ?_) (Nat.le_of_ble_eq_true rfl) ?_
  · simp only [List.mem_cons, List.not_mem_nil, or_false] at hv; rcases hv with rfl | rfl | rfl <;> rfl
  · have hq := w_State_handCell_0 (g := g) (Q := RetV (some (.int (f_State_handCell P c b))) h) (h := h) (kc := 0) (ks := 0) hst ho c hs hP hw b hb ?_
    · exact hq
    · exact ⟨rfl, rfl⟩

def f_State_sumOfOuts_4 (c : Nat → Int32) (n : Nat) : Nat → (Int32) → (Nat) → Int32
  | 0, _, _ => 0
  | t + 1, m, k => if n ≤ k then m else f_State_sumOfOuts_4 c n t (m + (c ((k * 9) + 3))) (k + 1)
set_option maxRecDepth 4000 in
theorem w_State_sumOfOuts_4 {g : GG} {Q : QT} {h : Hp} {kc ks : Nat} (hst : (gl g).stackTraces = false) {o s : Nat} (ho : h o = some (.inr (8, [.ref s]))) (c : Nat → Int32) (hs : h s = some (aI g 225 c)) (n : Nat) (hn : n < 11)  (t : Nat) : ∀ (m : Int32) (k : Nat) (hk1 : k < 11) (hlt : 10 - k < t) (hk : Q (.inl (some (.int (f_State_sumOfOuts_4 c n t m k)))) h), PW g M_State_sumOfOuts 0 kc ks Q 4 [.ref (o), .int (nI (n)), .int (m), .int (nI (k))] [] h := by
  induction t with
  | zero => intro m k hk1 hlt _; exact absurd hlt (Nat.not_lt_zero _)
  | succ t ih =>
    intro m k hk1 hlt hk
    refine pw_iload_n e_State_sumOfOuts_4 rfl ?_
    refine pw_iload_n e_State_sumOfOuts_5 rfl ?_
    refine pw_icmp_geN (tgt := 29) e_State_sumOfOuts_6 (by decide) (by omega) (by omega) (fun (H1 : n ≤ k) => ?_) (fun (H1 : k < n) => ?_)
    · refine pw_iload_n e_State_sumOfOuts_29 rfl ?_
      refine pw_iret e_State_sumOfOuts_30 rfl rfl ?_
      rw [f_State_sumOfOuts_4, if_pos H1] at hk
      exact hk
    · refine pw_iload_n e_State_sumOfOuts_9 rfl ?_
      refine pw_aload_n e_State_sumOfOuts_10 rfl ?_
      refine pw_getf e_State_sumOfOuts_11 fl_State_9 ho rfl ?_
      refine pw_iload_n e_State_sumOfOuts_14 rfl ?_
      refine pw_bipush (v := nI 9) e_State_sumOfOuts_15 (by decide) ?_
      refine pw_imulN e_State_sumOfOuts_17 ?_
      refine pw_iconst (v := nI 3) e_State_sumOfOuts_18 (by decide) ?_
      refine pw_iaddN e_State_sumOfOuts_19 ?_
      refine pw_ialdN e_State_sumOfOuts_20 hs (by omega) (by decide) ?_
      refine pw_iadd e_State_sumOfOuts_21 ?_
      refine pw_istore_n (ls2 := [_, _, _, _]) e_State_sumOfOuts_22 (by decide) rfl ?_
      refine pw_iincN (ls2 := [_, _, _, _]) e_State_sumOfOuts_23 rfl (by decide) rfl ?_
      refine pw_goto (tgt := 4) e_State_sumOfOuts_26 (by decide) ?_
      refine ih (m + (c ((k * 9) + 3))) (k + 1) (by omega) (by omega) ?_
      rw [f_State_sumOfOuts_4, if_neg (Nat.not_le.mpr H1)] at hk
      exact hk
def f_State_sumOfOuts (c : Nat → Int32) (n : Nat) : Int32 :=
  f_State_sumOfOuts_4 c n 11 0 0
set_option maxRecDepth 4000 in
theorem w_State_sumOfOuts_0 {g : GG} {Q : QT} {h : Hp} {kc ks : Nat} (hst : (gl g).stackTraces = false) {o s : Nat} (ho : h o = some (.inr (8, [.ref s]))) (c : Nat → Int32) (hs : h s = some (aI g 225 c)) (n : Nat) (hn : n < 11)  (hk : Q (.inl (some (.int (f_State_sumOfOuts c n)))) h) : PW g M_State_sumOfOuts 0 kc ks Q 0 [.ref (o), .int (nI (n)), .retAddr 0, .retAddr 0] [] h := by
  refine pw_iconst (v := nI 0) e_State_sumOfOuts_0 (by decide) ?_
  refine pw_istore_n (ls2 := [_, _, _, _]) e_State_sumOfOuts_1 (by decide) rfl ?_
  refine pw_iconst (v := nI 0) e_State_sumOfOuts_2 (by decide) ?_
  refine pw_istore_n (ls2 := [_, _, _, _]) e_State_sumOfOuts_3 (by decide) rfl ?_
  refine w_State_sumOfOuts_4 hst ho c hs n hn 11 0 0 (by omega) (by omega) ?_
  rw [f_State_sumOfOuts] at hk
  exact hk
theorem q_State_sumOfOuts {g : GG} {h : Hp} (hst : (gl g).stackTraces = false) {o s : Nat} (ho : h o = some (.inr (8, [.ref s]))) (c : Nat → Int32) (hs : h s = some (aI g 225 c)) (n : Nat) (hn : n < 11)  : PM g M_State_sumOfOuts 0 0 0 [.ref (o), .int (nI (n))] h (RetV (some (.int (f_State_sumOfOuts c n))) h) := by
  refine PM.of hst (by decide) rfl (fun v hv => ?_) (Nat.le_of_ble_eq_true rfl) ?_
  · simp only [List.mem_cons, List.not_mem_nil, or_false] at hv; rcases hv with rfl | rfl <;> rfl
  · have hq := w_State_sumOfOuts_0 (g := g) (Q := RetV (some (.int (f_State_sumOfOuts c n))) h) (h := h) (kc := 0) (ks := 0) hst ho c hs n hn ?_
    · exact hq
    · exact ⟨rfl, rfl⟩

theorem q_State_copyFrom {g : GG} {h : Hp} (hst : (gl g).stackTraces = false) {o s o2 s2 : Nat} (ho : h o = some (.inr (8, [.ref s]))) (ho2 : h o2 = some (.inr (8, [.ref s2]))) (c c2 : Nat → Int32) (hs : h s = some (aI g 225 c)) (hs2 : h s2 = some (aI g 225 c2)) : PM g M_State_copyFrom 1 0 0 [.ref o, .ref o2] h (RetV none (va_up h s (some (aI g 225 c2)))) := by
  refine PM.of hst (by decide) rfl (fun v hv => ?_) (Nat.le_of_ble_eq_true rfl) ?_
  · simp only [List.mem_cons, List.not_mem_nil, or_false] at hv; rcases hv with rfl | rfl <;> rfl
  · refine pw_aload_n e_State_copyFrom_0 rfl ?_
    refine pw_getf e_State_copyFrom_1 fl_State_9 ho2 rfl ?_
    refine pw_iconst (v := nI 0) e_State_copyFrom_4 (by decide) ?_
    refine pw_aload_n e_State_copyFrom_5 rfl ?_
    refine pw_getf e_State_copyFrom_6 fl_State_9 ho rfl ?_
    refine pw_iconst (v := nI 0) e_State_copyFrom_9 (by decide) ?_
    refine pw_sipush (v := nI 225) e_State_copyFrom_10 (by decide) ?_
    refine pw_copy e_State_copyFrom_13 ay_State_15 hs2 hs (by decide) (by decide) (by decide) (by decide) (by decide) (by decide) (Nat.le_of_ble_eq_true rfl) ?_
    refine pw_norm (f' := c2) (fun i hi => ?_) ?_
    · have e1 : (nI 225).toNatClampNeg = 225 := by decide
      have e2 : (nI 0).toNatClampNeg = 0 := by decide
      rw [e1, e2, pk_cpy_in (Nat.zero_le _) (by omega)]
      congr 1
      omega
    · exact pw_vret e_State_copyFrom_16 rfl ⟨rfl, rfl⟩
def f_State_startAnew_105 (P : Nat → Nat → Int32) : Nat → (Nat → Int32) → (Nat) → Nat → Int32
  | 0, c, _ => c
  | t + 1, c, k => if 12 ≤ k then c else f_State_startAnew_105 P t (upd c ((155 + (k * 5)) + 3) 1) (k + 1)
set_option maxRecDepth 4000 in
theorem w_State_startAnew_105 {g : GG} {Q : QT} {h : Hp} {kc ks : Nat} (hst : (gl g).stackTraces = false) {o s : Nat} (ho : ∀ e, va_up h s e o = some (.inr (8, [.ref s]))) {p : Nat} {ad : Nat → Nat} {P : Nat → Nat → Int32} (hP : ∀ e, PlanAt g p ad P (va_up h s e)) (hw : wfP P)  (t : Nat) : ∀ (c : Nat → Int32) (k : Nat) (hk1 : k < 13) (hlt : 12 - k < t) (hk : PW g M_State_startAnew 0 kc ks Q 132 [.ref (o), .ref (p), .retAddr 0, .retAddr 0] [] (va_up h s (some (aI g 225 (f_State_startAnew_105 P t c k))))), PW g M_State_startAnew 0 kc ks Q 105 [.ref (o), .ref (p), .int (nI (k)), .retAddr 0] [] (va_up h s (some (aI g 225 (c)))) := by
  induction t with
  | zero => intro c k hk1 hlt _; exact absurd hlt (Nat.not_lt_zero _)
  | succ t ih =>
    intro c k hk1 hlt hk
    have hb0 := hw.blk.2
    refine pw_iload_n e_State_startAnew_105 rfl ?_
    refine pw_bipush (v := nI 12) e_State_startAnew_106 (by decide) ?_
    refine pw_icmp_geN (tgt := 132) e_State_startAnew_108 (by decide) (by omega) (by omega) (fun (H1 : 12 ≤ k) => ?_) (fun (H1 : k < 12) => ?_)
    · refine pw_fgt (ls' := [.ref (o), .ref (p), .retAddr 0, .retAddr 0]) ⟨Or.inr rfl, Or.inr rfl, Or.inl rfl, Or.inr rfl, trivial⟩ ?_
      rw [f_State_startAnew_105, if_pos H1] at hk
      exact hk
    · refine pw_aload_n e_State_startAnew_111 rfl ?_
      refine pw_getf e_State_startAnew_112 fl_State_9 (ho _) rfl ?_
      refine pw_sipush (v := nI 155) e_State_startAnew_115 (by decide) ?_
      refine pw_iload_n e_State_startAnew_118 rfl ?_
      refine pw_iconst (v := nI 5) e_State_startAnew_119 (by decide) ?_
      refine pw_imulN e_State_startAnew_120 ?_
      refine pw_iaddN e_State_startAnew_121 ?_
      refine pw_iconst (v := nI 3) e_State_startAnew_122 (by decide) ?_
      refine pw_iaddN e_State_startAnew_123 ?_
      refine pw_iconst (v := nI 1) e_State_startAnew_124 (by decide) ?_
      refine pw_iastU e_State_startAnew_125 (by omega) (by decide) ?_
      refine pw_iincN (ls2 := [_, _, _, _]) e_State_startAnew_126 rfl (by decide) rfl ?_
      refine pw_goto (tgt := 105) e_State_startAnew_129 (by decide) ?_
      refine ih (upd c ((155 + (k * 5)) + 3) 1) (k + 1) (by omega) (by omega) ?_
      rw [f_State_startAnew_105, if_neg (Nat.not_le.mpr H1)] at hk
      exact hk
def f_State_startAnew_24 (P : Nat → Nat → Int32) : Nat → (Nat → Int32) → (Nat) → Nat → Int32
  | 0, c, _ => c
  | t + 1, c, k => if (pN P 30 3) ≤ k then c else if ((P 10) ((k * 3) + 2)) = ((-1)) then f_State_startAnew_24 P t (upd (upd (upd (upd c ((k * 9) + 0) 2) ((k * 9) + 1) 1) ((k * 9) + 5) 1) ((k * 9) + 8) ((P 4) k)) (k + 1) else f_State_startAnew_24 P t (upd (upd (upd (upd c ((k * 9) + 0) 3) ((k * 9) + 1) 1) ((k * 9) + 5) 1) ((k * 9) + 8) ((P 4) k)) (k + 1)
set_option maxRecDepth 4000 in
theorem w_State_startAnew_24 {g : GG} {Q : QT} {h : Hp} {kc ks : Nat} (hst : (gl g).stackTraces = false) {o s : Nat} (ho : ∀ e, va_up h s e o = some (.inr (8, [.ref s]))) {p : Nat} {ad : Nat → Nat} {P : Nat → Nat → Int32} (hP : ∀ e, PlanAt g p ad P (va_up h s e)) (hw : wfP P)  (t : Nat) : ∀ (c : Nat → Int32) (k : Nat) (hk1 : k < 11) (hlt : 10 - k < t) (hk : PW g M_State_startAnew 0 kc ks Q 103 [.ref (o), .ref (p), .retAddr 0, .retAddr 0] [] (va_up h s (some (aI g 225 (f_State_startAnew_24 P t c k))))), PW g M_State_startAnew 0 kc ks Q 24 [.ref (o), .ref (p), .int (nI (k)), .retAddr 0] [] (va_up h s (some (aI g 225 (c)))) := by
  induction t with
  | zero => intro c k hk1 hlt _; exact absurd hlt (Nat.not_lt_zero _)
  | succ t ih =>
    intro c k hk1 hlt hk
    have hb0 := hw.blk.2
    refine pw_iload_n e_State_startAnew_24 rfl ?_
    refine pw_aload_n e_State_startAnew_25 rfl ?_
    refine pw_getf e_State_startAnew_26 fl_State_21 (hP _).o rfl ?_
    rw [hw.blk.1]
    refine pw_icmp_geN (tgt := 103) e_State_startAnew_29 (by decide) (by omega) (by omega) (fun (H1 : (pN P 30 3) ≤ k) => ?_) (fun (H1 : k < (pN P 30 3)) => ?_)
    · refine pw_fgt (ls' := [.ref (o), .ref (p), .retAddr 0, .retAddr 0]) ⟨Or.inr rfl, Or.inr rfl, Or.inl rfl, Or.inr rfl, trivial⟩ ?_
      rw [f_State_startAnew_24, if_pos H1] at hk
      exact hk
    · refine pw_iload_n e_State_startAnew_32 rfl ?_
      refine pw_bipush (v := nI 9) e_State_startAnew_33 (by decide) ?_
      refine pw_imulN e_State_startAnew_35 ?_
      refine pw_istore_n (ls2 := [_, _, _, _]) e_State_startAnew_36 (by decide) rfl ?_
      refine pw_aload_n e_State_startAnew_37 rfl ?_
      refine pw_getf e_State_startAnew_38 fl_State_9 (ho _) rfl ?_
      refine pw_iload_n e_State_startAnew_41 rfl ?_
      refine pw_iconst (v := nI 0) e_State_startAnew_42 (by decide) ?_
      refine pw_iaddN e_State_startAnew_43 ?_
      refine pw_aload_n e_State_startAnew_44 rfl ?_
      refine pw_getf e_State_startAnew_45 fl_State_27 (hP _).o rfl ?_
      refine pw_iload_n e_State_startAnew_48 rfl ?_
      refine pw_iconst (v := nI 3) e_State_startAnew_49 (by decide) ?_
      refine pw_imulN e_State_startAnew_50 ?_
      refine pw_iconst (v := nI 2) e_State_startAnew_51 (by decide) ?_
      refine pw_iaddN e_State_startAnew_52 ?_
      refine pw_ialdN e_State_startAnew_53 (hP _).a10 (by omega) (by decide) ?_
      refine pw_iconst (v := (-1)) e_State_startAnew_54 (by decide) ?_
      refine pw_icmp_ne (tgt := 62) e_State_startAnew_55 (by decide) (fun (H2 : ¬ ((P 10) ((k * 3) + 2)) = ((-1))) => ?_) (fun (H2 : ((P 10) ((k * 3) + 2)) = ((-1))) => ?_)
      · refine pw_iconst (v := nI 3) e_State_startAnew_62 (by decide) ?_
        refine pw_iastU e_State_startAnew_63 (by omega) (by decide) ?_
        refine pw_aload_n e_State_startAnew_64 rfl ?_
        refine pw_getf e_State_startAnew_65 fl_State_9 (ho _) rfl ?_
        refine pw_iload_n e_State_startAnew_68 rfl ?_
        refine pw_iconst (v := nI 1) e_State_startAnew_69 (by decide) ?_
        refine pw_iaddN e_State_startAnew_70 ?_
        refine pw_iconst (v := nI 1) e_State_startAnew_71 (by decide) ?_
        refine pw_iastU e_State_startAnew_72 (by omega) (by decide) ?_
        refine pw_aload_n e_State_startAnew_73 rfl ?_
        refine pw_getf e_State_startAnew_74 fl_State_9 (ho _) rfl ?_
        refine pw_iload_n e_State_startAnew_77 rfl ?_
        refine pw_iconst (v := nI 5) e_State_startAnew_78 (by decide) ?_
        refine pw_iaddN e_State_startAnew_79 ?_
        refine pw_iconst (v := nI 1) e_State_startAnew_80 (by decide) ?_
        refine pw_iastU e_State_startAnew_81 (by omega) (by decide) ?_
        refine pw_aload_n e_State_startAnew_82 rfl ?_
        refine pw_getf e_State_startAnew_83 fl_State_9 (ho _) rfl ?_
        refine pw_iload_n e_State_startAnew_86 rfl ?_
        refine pw_bipush (v := nI 8) e_State_startAnew_87 (by decide) ?_
        refine pw_iaddN e_State_startAnew_89 ?_
        refine pw_aload_n e_State_startAnew_90 rfl ?_
        refine pw_getf e_State_startAnew_91 fl_State_30 (hP _).o rfl ?_
        refine pw_iload_n e_State_startAnew_94 rfl ?_
        refine pw_ialdN e_State_startAnew_95 (hP _).a4 (by omega) (by decide) ?_
        refine pw_iastU e_State_startAnew_96 (by omega) (by decide) ?_
        refine pw_iincN (ls2 := [_, _, _, _]) e_State_startAnew_97 rfl (by decide) rfl ?_
        refine pw_goto (tgt := 24) e_State_startAnew_100 (by decide) ?_
        refine pw_fgt (ls' := [.ref (o), .ref (p), .int (nI (k + 1)), .retAddr 0]) ⟨Or.inr rfl, Or.inr rfl, Or.inr rfl, Or.inl rfl, trivial⟩ ?_
        refine ih (upd (upd (upd (upd c ((k * 9) + 0) 3) ((k * 9) + 1) 1) ((k * 9) + 5) 1) ((k * 9) + 8) ((P 4) k)) (k + 1) (by omega) (by omega) ?_
        rw [f_State_startAnew_24, if_neg (Nat.not_le.mpr H1), if_neg H2] at hk
        exact hk
      · refine pw_iconst (v := nI 2) e_State_startAnew_58 (by decide) ?_
        refine pw_goto (tgt := 63) e_State_startAnew_59 (by decide) ?_
        refine pw_iastU e_State_startAnew_63 (by omega) (by decide) ?_
        refine pw_aload_n e_State_startAnew_64 rfl ?_
        refine pw_getf e_State_startAnew_65 fl_State_9 (ho _) rfl ?_
        refine pw_iload_n e_State_startAnew_68 rfl ?_
        refine pw_iconst (v := nI 1) e_State_startAnew_69 (by decide) ?_
        refine pw_iaddN e_State_startAnew_70 ?_
        refine pw_iconst (v := nI 1) e_State_startAnew_71 (by decide) ?_
        refine pw_iastU e_State_startAnew_72 (by omega) (by decide) ?_
        refine pw_aload_n e_State_startAnew_73 rfl ?_
        refine pw_getf e_State_startAnew_74 fl_State_9 (ho _) rfl ?_
        refine pw_iload_n e_State_startAnew_77 rfl ?_
        refine pw_iconst (v := nI 5) e_State_startAnew_78 (by decide) ?_
        refine pw_iaddN e_State_startAnew_79 ?_
        refine pw_iconst (v := nI 1) e_State_startAnew_80 (by decide) ?_
        refine pw_iastU e_State_startAnew_81 (by omega) (by decide) ?_
        refine pw_aload_n e_State_startAnew_82 rfl ?_
        refine pw_getf e_State_startAnew_83 fl_State_9 (ho _) rfl ?_
        refine pw_iload_n e_State_startAnew_86 rfl ?_
        refine pw_bipush (v := nI 8) e_State_startAnew_87 (by decide) ?_
        refine pw_iaddN e_State_startAnew_89 ?_
        refine pw_aload_n e_State_startAnew_90 rfl ?_
        refine pw_getf e_State_startAnew_91 fl_State_30 (hP _).o rfl ?_
        refine pw_iload_n e_State_startAnew_94 rfl ?_
        refine pw_ialdN e_State_startAnew_95 (hP _).a4 (by omega) (by decide) ?_
        refine pw_iastU e_State_startAnew_96 (by omega) (by decide) ?_
        refine pw_iincN (ls2 := [_, _, _, _]) e_State_startAnew_97 rfl (by decide) rfl ?_
        refine pw_goto (tgt := 24) e_State_startAnew_100 (by decide) ?_
        refine pw_fgt (ls' := [.ref (o), .ref (p), .int (nI (k + 1)), .retAddr 0]) ⟨Or.inr rfl, Or.inr rfl, Or.inr rfl, Or.inl rfl, trivial⟩ ?_
        refine ih (upd (upd (upd (upd c ((k * 9) + 0) 2) ((k * 9) + 1) 1) ((k * 9) + 5) 1) ((k * 9) + 8) ((P 4) k)) (k + 1) (by omega) (by omega) ?_
        rw [f_State_startAnew_24, if_neg (Nat.not_le.mpr H1), if_pos H2] at hk
        exact hk
def f_State_startAnew_2 (P : Nat → Nat → Int32) : Nat → (Nat → Int32) → (Nat) → Nat → Int32
  | 0, c, _ => c
  | t + 1, c, k => if 225 ≤ k then c else f_State_startAnew_2 P t (upd c k 0) (k + 1)
set_option maxRecDepth 4000 in
theorem w_State_startAnew_2 {g : GG} {Q : QT} {h : Hp} {kc ks : Nat} (hst : (gl g).stackTraces = false) {o s : Nat} (ho : ∀ e, va_up h s e o = some (.inr (8, [.ref s]))) {p : Nat} {ad : Nat → Nat} {P : Nat → Nat → Int32} (hP : ∀ e, PlanAt g p ad P (va_up h s e)) (hw : wfP P)  (t : Nat) : ∀ (c : Nat → Int32) (k : Nat) (hk1 : k < 226) (hlt : 225 - k < t) (hk : PW g M_State_startAnew 0 kc ks Q 22 [.ref (o), .ref (p), .retAddr 0, .retAddr 0] [] (va_up h s (some (aI g 225 (f_State_startAnew_2 P t c k))))), PW g M_State_startAnew 0 kc ks Q 2 [.ref (o), .ref (p), .int (nI (k)), .retAddr 0] [] (va_up h s (some (aI g 225 (c)))) := by
  induction t with
  | zero => intro c k hk1 hlt _; exact absurd hlt (Nat.not_lt_zero _)
  | succ t ih =>
    intro c k hk1 hlt hk
    have hb0 := hw.blk.2
    refine pw_iload_n e_State_startAnew_2 rfl ?_
    refine pw_sipush (v := nI 225) e_State_startAnew_3 (by decide) ?_
    refine pw_icmp_geN (tgt := 22) e_State_startAnew_6 (by decide) (by omega) (by omega) (fun (H1 : 225 ≤ k) => ?_) (fun (H1 : k < 225) => ?_)
    · refine pw_fgt (ls' := [.ref (o), .ref (p), .retAddr 0, .retAddr 0]) ⟨Or.inr rfl, Or.inr rfl, Or.inl rfl, Or.inr rfl, trivial⟩ ?_
      rw [f_State_startAnew_2, if_pos H1] at hk
      exact hk
    · refine pw_aload_n e_State_startAnew_9 rfl ?_
      refine pw_getf e_State_startAnew_10 fl_State_9 (ho _) rfl ?_
      refine pw_iload_n e_State_startAnew_13 rfl ?_
      refine pw_iconst (v := nI 0) e_State_startAnew_14 (by decide) ?_
      refine pw_iastU e_State_startAnew_15 (by omega) (by decide) ?_
      refine pw_iincN (ls2 := [_, _, _, _]) e_State_startAnew_16 rfl (by decide) rfl ?_
      refine pw_goto (tgt := 2) e_State_startAnew_19 (by decide) ?_
      refine ih (upd c k 0) (k + 1) (by omega) (by omega) ?_
      rw [f_State_startAnew_2, if_neg (Nat.not_le.mpr H1)] at hk
      exact hk
def f_State_startAnew (P : Nat → Nat → Int32) (c : Nat → Int32) : Nat → Int32 :=
  upd (upd (f_State_startAnew_105 P 13 (f_State_startAnew_24 P 11 (f_State_startAnew_2 P 226 c 0) 0) 0) 220 (((1 : Int32) <<< ((nI (pN P 30 0)) &&& 31)) - 1)) 224 (P 30 1)
set_option maxRecDepth 4000 in
theorem w_State_startAnew_0 {g : GG} {Q : QT} {h : Hp} {kc ks : Nat} (hst : (gl g).stackTraces = false) {o s : Nat} (ho : ∀ e, va_up h s e o = some (.inr (8, [.ref s]))) {p : Nat} {ad : Nat → Nat} {P : Nat → Nat → Int32} (hP : ∀ e, PlanAt g p ad P (va_up h s e)) (hw : wfP P)  (c : Nat → Int32) (hk : Q (.inl none) (va_up h s (some (aI g 225 (f_State_startAnew P c))))) : PW g M_State_startAnew 0 kc ks Q 0 [.ref (o), .ref (p), .retAddr 0, .retAddr 0] [] (va_up h s (some (aI g 225 (c)))) := by
  have hb0 := hw.blk.2
  refine pw_iconst (v := nI 0) e_State_startAnew_0 (by decide) ?_
  refine pw_istore_n (ls2 := [_, _, _, _]) e_State_startAnew_1 (by decide) rfl ?_
  refine w_State_startAnew_2 hst ho hP hw 226 c 0 (by omega) (by omega) ?_
  refine pw_iconst (v := nI 0) e_State_startAnew_22 (by decide) ?_
  refine pw_istore_n (ls2 := [_, _, _, _]) e_State_startAnew_23 (by decide) rfl ?_
  refine w_State_startAnew_24 hst ho hP hw 11 (f_State_startAnew_2 P 226 c 0) 0 (by omega) (by omega) ?_
  refine pw_iconst (v := nI 0) e_State_startAnew_103 (by decide) ?_
  refine pw_istore_n (ls2 := [_, _, _, _]) e_State_startAnew_104 (by decide) rfl ?_
  refine w_State_startAnew_105 hst ho hP hw 13 (f_State_startAnew_24 P 11 (f_State_startAnew_2 P 226 c 0) 0) 0 (by omega) (by omega) ?_
  refine pw_aload_n e_State_startAnew_132 rfl ?_
  refine pw_getf e_State_startAnew_133 fl_State_9 (ho _) rfl ?_
  refine pw_sipush (v := nI 220) e_State_startAnew_136 (by decide) ?_
  refine pw_iconst (v := nI 1) e_State_startAnew_139 (by decide) ?_
  refine pw_aload_n e_State_startAnew_140 rfl ?_
  refine pw_getf e_State_startAnew_141 fl_State_33 (hP _).o rfl ?_
  rw [hw.dvs.1]
  refine pw_ishl e_State_startAnew_144 ?_
  refine pw_iconst (v := nI 1) e_State_startAnew_145 (by decide) ?_
  refine pw_isub e_State_startAnew_146 ?_
  refine pw_iastU e_State_startAnew_147 (by omega) (by decide) ?_
  refine pw_aload_n e_State_startAnew_148 rfl ?_
  refine pw_getf e_State_startAnew_149 fl_State_9 (ho _) rfl ?_
  refine pw_sipush (v := nI 224) e_State_startAnew_152 (by decide) ?_
  refine pw_aload_n e_State_startAnew_155 rfl ?_
  refine pw_getf e_State_startAnew_156 fl_State_36 (hP _).o rfl ?_
  refine pw_iastU e_State_startAnew_159 (by omega) (by decide) ?_
  refine pw_vret e_State_startAnew_160 rfl ?_
  rw [f_State_startAnew] at hk
  exact hk
theorem q_State_startAnew {g : GG} {h : Hp} (hst : (gl g).stackTraces = false) {o s : Nat} (ho : ∀ e, va_up h s e o = some (.inr (8, [.ref s]))) {p : Nat} {ad : Nat → Nat} {P : Nat → Nat → Int32} (hP : ∀ e, PlanAt g p ad P (va_up h s e)) (hw : wfP P)  (c : Nat → Int32) (hm : h s = some (aI g 225 c)) : PM g M_State_startAnew 0 0 0 [.ref (o), .ref (p)] h (RetV none (va_up h s (some (aI g 225 (f_State_startAnew P c))))) := by
  refine PM.of hst (by decide) rfl (fun v hv => ?_) (Nat.le_of_ble_eq_true rfl) ?_
  · simp only [List.mem_cons, List.not_mem_nil, or_false] at hv; rcases hv with rfl | rfl <;> rfl
  · have hq := w_State_startAnew_0 (g := g) (Q := RetV none (va_up h s (some (aI g 225 (f_State_startAnew P c))))) (h := h) (kc := 0) (ks := 0) (s := s) hst ho hP hw c ?_
    · rw [up_self hm] at hq; exact hq
    · exact ⟨rfl, rfl⟩

def f_Plan_hasInputOf_2 (P : Nat → Nat → Int32) (x : Int32) : Nat → (Nat) → Int32
  | 0, _ => 0
  | t + 1, k => if (pN P 30 3) ≤ k then 0 else if (pN P 0 k) = 0 then if ((P 3) k) = x then 1 else f_Plan_hasInputOf_2 P x t (k + 1) else f_Plan_hasInputOf_2 P x t (k + 1)
set_option maxRecDepth 4000 in
theorem w_Plan_hasInputOf_2 {g : GG} {Q : QT} {h : Hp} {kc ks : Nat} (hst : (gl g).stackTraces = false) {p : Nat} {ad : Nat → Nat} {P : Nat → Nat → Int32} (hP : PlanAt g p ad P h) (hw : wfP P) (x : Int32)  (t : Nat) : ∀ (k : Nat) (hk1 : k < 11) (hlt : 10 - k < t) (hk : Q (.inl (some (.int (f_Plan_hasInputOf_2 P x t k)))) h), PW g M_Plan_hasInputOf 0 kc ks Q 2 [.ref (p), .int (x), .int (nI (k))] [] h := by
  induction t with
  | zero => intro k hk1 hlt _; exact absurd hlt (Nat.not_lt_zero _)
  | succ t ih =>
    intro k hk1 hlt hk
    have hb0 := hw.blk.2
    refine pw_iload_n e_Plan_hasInputOf_2 rfl ?_
    refine pw_aload_n e_Plan_hasInputOf_3 rfl ?_
    refine pw_getf e_Plan_hasInputOf_4 fl_Plan_21 hP.o rfl ?_
    rw [hw.blk.1]
    refine pw_icmp_geN (tgt := 37) e_Plan_hasInputOf_7 (by decide) (by omega) (by omega) (fun (H1 : (pN P 30 3) ≤ k) => ?_) (fun (H1 : k < (pN P 30 3)) => ?_)
    · refine pw_iconst (v := nI 0) e_Plan_hasInputOf_37 (by decide) ?_
      refine pw_iret e_Plan_hasInputOf_38 rfl (by decide) ?_
      rw [f_Plan_hasInputOf_2, if_pos H1] at hk
      exact hk
    · refine pw_aload_n e_Plan_hasInputOf_10 rfl ?_
      refine pw_getf e_Plan_hasInputOf_11 fl_Plan_24 hP.o rfl ?_
      refine pw_iload_n e_Plan_hasInputOf_14 rfl ?_
      have hb2 := hw.kind k
      refine pw_ialdC e_Plan_hasInputOf_15 hP.a0 (by omega) (by decide) hb2.1 ?_
      replace hb2 := hb2.2
      refine pw_if_neN (tgt := 31) e_Plan_hasInputOf_16 (by decide) (by omega) (fun (H3 : ¬ (pN P 0 k) = 0) => ?_) (fun (H3 : (pN P 0 k) = 0) => ?_)
      · refine pw_iincN (ls2 := [_, _, _]) e_Plan_hasInputOf_31 rfl (by decide) rfl ?_
        refine pw_goto (tgt := 2) e_Plan_hasInputOf_34 (by decide) ?_
        refine ih (k + 1) (by omega) (by omega) ?_
        rw [f_Plan_hasInputOf_2, if_neg (Nat.not_le.mpr H1), if_neg H3] at hk
        exact hk
      · refine pw_aload_n e_Plan_hasInputOf_19 rfl ?_
        refine pw_getf e_Plan_hasInputOf_20 fl_Plan_34 hP.o rfl ?_
        refine pw_iload_n e_Plan_hasInputOf_23 rfl ?_
        refine pw_ialdN e_Plan_hasInputOf_24 hP.a3 (by omega) (by decide) ?_
        refine pw_iload_n e_Plan_hasInputOf_25 rfl ?_
        refine pw_icmp_ne (tgt := 31) e_Plan_hasInputOf_26 (by decide) (fun (H4 : ¬ ((P 3) k) = x) => ?_) (fun (H4 : ((P 3) k) = x) => ?_)
        · refine pw_iincN (ls2 := [_, _, _]) e_Plan_hasInputOf_31 rfl (by decide) rfl ?_
          refine pw_goto (tgt := 2) e_Plan_hasInputOf_34 (by decide) ?_
          refine ih (k + 1) (by omega) (by omega) ?_
          rw [f_Plan_hasInputOf_2, if_neg (Nat.not_le.mpr H1), if_pos H3, if_neg H4] at hk
          exact hk
        · refine pw_iconst (v := nI 1) e_Plan_hasInputOf_29 (by decide) ?_
          refine pw_iret e_Plan_hasInputOf_30 rfl (by decide) ?_
          rw [f_Plan_hasInputOf_2, if_neg (Nat.not_le.mpr H1), if_pos H3, if_pos H4] at hk
          exact hk
def f_Plan_hasInputOf (P : Nat → Nat → Int32) (x : Int32) : Int32 :=
  f_Plan_hasInputOf_2 P x 11 0
set_option maxRecDepth 4000 in
theorem w_Plan_hasInputOf_0 {g : GG} {Q : QT} {h : Hp} {kc ks : Nat} (hst : (gl g).stackTraces = false) {p : Nat} {ad : Nat → Nat} {P : Nat → Nat → Int32} (hP : PlanAt g p ad P h) (hw : wfP P) (x : Int32)  (hk : Q (.inl (some (.int (f_Plan_hasInputOf P x)))) h) : PW g M_Plan_hasInputOf 0 kc ks Q 0 [.ref (p), .int (x), .retAddr 0] [] h := by
  have hb0 := hw.blk.2
  refine pw_iconst (v := nI 0) e_Plan_hasInputOf_0 (by decide) ?_
  refine pw_istore_n (ls2 := [_, _, _]) e_Plan_hasInputOf_1 (by decide) rfl ?_
  refine w_Plan_hasInputOf_2 hst hP hw x 11 0 (by omega) (by omega) ?_
  rw [f_Plan_hasInputOf] at hk
  exact hk
theorem q_Plan_hasInputOf {g : GG} {h : Hp} (hst : (gl g).stackTraces = false) {p : Nat} {ad : Nat → Nat} {P : Nat → Nat → Int32} (hP : PlanAt g p ad P h) (hw : wfP P) (x : Int32)  : PM g M_Plan_hasInputOf 0 0 0 [.ref (p), .int (x)] h (RetV (some (.int (f_Plan_hasInputOf P x))) h) := by
  refine PM.of hst (by decide) rfl (fun v hv => ?_) (Nat.le_of_ble_eq_true rfl) ?_
  · simp only [List.mem_cons, List.not_mem_nil, or_false] at hv; rcases hv with rfl | rfl <;> rfl
  · have hq := w_Plan_hasInputOf_0 (g := g) (Q := RetV (some (.int (f_Plan_hasInputOf P x))) h) (h := h) (kc := 0) (ks := 0) hst hP hw x ?_
    · exact hq
    · exact ⟨rfl, rfl⟩


