/-! WHAT LIES BESIDE THE HEAP BY NUMBERS: links among nest mates, static tables (numbers 2000000 on), literals (numbers 1000000 on), what a throw asks. -/
def aNest : List Cond := [.methodLinkNest "LineupDesk" 26 yX3_init "LineupDesk", .methodLinkNest "LineupDesk" 47 yX5_init "LineupDesk", .methodLinkNest "LineupDesk" 57 yX0_init "LineupDesk", .methodLinkNest "LineupDesk$Formula" 45 yX6_held "LineupDesk", .methodLinkNest "LineupDesk$Reader" 20 yX1_init "LineupDesk", .methodLinkNest "LineupDesk$Reader" 31 yX4_init "LineupDesk", .methodLinkNest "LineupDesk$Tokens" 38 yX6_held "LineupDesk", .methodLinkNest "LineupDesk$Witness" 64 yX6_held "LineupDesk"]
def aNestF : List (String × Nat × String) := [("LineupDesk$Lineup", 49, "USUAL_SETTING"), ("LineupDesk$Reader", 132, "LEAST_SETTING"), ("LineupDesk$Reader", 136, "MOST_SETTING")]
def aSn (j : Nat) : String := ["LEAST_SETTING", "MOST_SETTING", "USUAL_SETTING"].getD j ""
def aSt (j i : Nat) : Int32 := ([[0, 0, 0, 1], [5, 120, 20, 99], [2, 30, 5, 50]].getD j []).getD i 0
def aTx : List String := ["traits", "filler", "told", "suspect", "match", "noise", "cut", "nudge", "prior", "value", "off", "weight"]
def aLen : List Nat := [6, 6, 4, 7, 5, 5, 3, 5, 5, 5, 3, 6]
def aByt : List (List Int32) := [[116, 114, 97, 105, 116, 115], [102, 105, 108, 108, 101, 114], [116, 111, 108, 100], [115, 117, 115, 112, 101, 99, 116], [109, 97, 116, 99, 104], [110, 111, 105, 115, 101], [99, 117, 116], [110, 117, 100, 103, 101], [112, 114, 105, 111, 114], [118, 97, 108, 117, 101], [111, 102, 102], [119, 101, 105, 103, 104, 116]]
/-- the literals: class, entry, text, number -/
def aLdc : List (String × Nat × String × Nat) := [("LineupDesk$Reader", 82, "traits", 1000000), ("LineupDesk$Reader", 94, "filler", 1000001), ("LineupDesk$Reader", 99, "told", 1000002), ("LineupDesk$Reader", 104, "suspect", 1000003), ("LineupDesk$Reader", 112, "match", 1000004), ("LineupDesk$Reader", 124, "noise", 1000005), ("LineupDesk$Reader", 126, "cut", 1000006), ("LineupDesk$Reader", 128, "nudge", 1000007), ("LineupDesk$Reader", 130, "prior", 1000008), ("LineupDesk$Reader", 181, "value", 1000009), ("LineupDesk$Reader", 183, "off", 1000010), ("LineupDesk$Reader", 185, "weight", 1000011), ("LineupDeskModel", 168, "traits", 1000000), ("LineupDeskModel", 151, "filler", 1000001), ("LineupDeskModel", 153, "told", 1000002), ("LineupDeskModel", 142, "suspect", 1000003), ("LineupDeskModel", 162, "match", 1000004), ("LineupDeskModel", 154, "noise", 1000005), ("LineupDeskModel", 156, "cut", 1000006), ("LineupDeskModel", 158, "nudge", 1000007), ("LineupDeskModel", 160, "prior", 1000008), ("LineupDeskModel", 123, "value", 1000009), ("LineupDeskModel", 129, "off", 1000010), ("LineupDeskModel", 131, "weight", 1000011), ("LineupDesk", 212, "no such person", 1000012), ("LineupDesk", 217, "no such trait", 1000013), ("LineupDesk", 219, "no such place", 1000014), ("LineupDesk", 223, "no such number", 1000015), ("LineupDesk", 228, "not as the persons are shown", 1000016)]
/-- what a throw asks beside the good words; which handler a throw passes by -/
def aDc : List MethodName := [Bundle.initS "java/lang/RuntimeException", Bundle.initS "java/lang/Exception", Bundle.initS "java/lang/Throwable"]
def aXs : List String := ["java/util/NoSuchElementException", "java/lang/IllegalArgumentException", "java/lang/IllegalStateException"]
def aNcs : List (String × String) := [("java/lang/IllegalStateException", "java/util/NoSuchElementException"), ("java/lang/IllegalArgumentException", "java/util/NoSuchElementException"), ("java/lang/IllegalStateException", "java/lang/IllegalArgumentException")]
theorem va_Nw.cast {a b : String} {s U : State} (h : s.vm.Alike U.vm) (hh : va_Nw (.castable a b) s) : va_Nw (.castable a b) U := by
  unfold va_Nw at hh ⊢
  simp only [Cond.before, Cond.holds, Cond.value] at hh ⊢
  have e1 : U.vm.findClass a = s.vm.findClass a := h.findClass ..
  have e2 : U.vm.findClass b = s.vm.findClass b := h.findClass ..
  rw [e1, e2]
  cases ha : s.vm.findClass a with
  | none => simp [ha] at hh
  | some x =>
    cases hb : s.vm.findClass b with
    | none => simp [ha, hb] at hh
    | some y =>
      have e3 : U.vm.assignable x y = s.vm.assignable x y := h.assignable ..
      simp only [ha, hb] at hh ⊢
      rw [e3]; exact hh
def aE (ad adV : Nat → Nat) (A : Nat → Prop) (U : State) : Prop :=
  ((∀ w ∈ aNest, va_Nw w U) ∧ (∀ q ∈ aNestF, va_Nw (.fieldLinkNest q.1 q.2.1 "LineupDesk" q.2.2 "[I" "LineupDesk") U)) ∧
  (∀ j, j < 3 → va_Z "LineupDesk" (aSn j) "[I" (.ref (ad (2000000 + j))) A U U.heap ∧ va_T .int (ad (2000000 + j)) 4 (fun i => .int (aSt j i)) A U U.heap) ∧
  vk_S 12 aLen aByt (fun k => ad (1000000 + k)) (fun k => ad (3000000 + k)) A U U.heap ∧
  (∀ q ∈ aLdc, vk_R q.1 q.2.1 q.2.2.1 (ad q.2.2.2) U) ∧
  (vx_Zq Bundle.tN "UNASSIGNED_STACK" Bundle.steD A U U.heap ∧ vx_Zq Bundle.tN "SUPPRESSED_SENTINEL" Bundle.listD A U U.heap) ∧
  (va_Z "java/lang/String" "COMPACT_STRINGS" "Z" (.int 1) A U U.heap ∧ va_Zq "jdk/internal/util/Preconditions" "SIOOBE_FORMATTER" "Ljava/util/function/BiFunction;" A U U.heap) ∧
  ((∀ q ∈ aDc, va_Nw (.declares q) U) ∧ (∀ x ∈ aXs, va_Nw (.castable x x) U) ∧ ∀ q ∈ aNcs, va_Nc q.1 q.2 U)
theorem aE.calling {ad adV : Nat → Nat} {A : Nat → Prop} {U : State} {g : JFrame} {mk : MethodId} {a : Array Value} (h : aE ad adV A U) : aE ad adV A (U.calling g mk a) := by
  obtain ⟨⟨h1, h1b⟩, h2, h3, h4, ⟨h5, h6⟩, ⟨h7, h8⟩, h9, h10, h11⟩ := h
  have r : U.vm.Alike (U.calling g mk a).vm := Vm.Alike.refl U.vm
  refine ⟨⟨fun w hw => ?_, fun q hq => va_Nw.same rfl (u := U) rfl (h1b q hq)⟩, fun j hj => ⟨va_Z.moved r (h2 j hj).1, va_T.moved r (h2 j hj).2⟩, vk_S.moved r h3, fun q hq => vk_R.same (u := U) rfl (h4 q hq), ⟨vx_Zq.moved r h5, vx_Zq.moved r h6⟩, ⟨va_Z.moved r h7, va_Zq.moved r h8⟩, fun q hq => va_Nw.same rfl (u := U) rfl (h9 q hq), fun x hx => va_Nw.same rfl (u := U) rfl (h10 x hx), fun q hq => va_Nc.moved r (h11 q hq)⟩
  have hh := h1 w hw
  simp only [aNest, List.mem_cons, List.not_mem_nil, or_false] at hw
  rcases hw with rfl | rfl | rfl | rfl | rfl | rfl | rfl | rfl <;> exact va_Nw.same rfl (u := U) rfl hh
theorem aE.call {ad adV : Nat → Nat} {A B : Nat → Prop} {s U : State} {H : Heap} {locs : List Loc} (h : aE ad adV A s) (hS : va_S A s.heap H locs) (hAB : ∀ q, B q → A q) (hU : U.heap = H) (hW : s.WarmedH U.vm) : aE ad adV B U := by
  obtain ⟨⟨h1, h1b⟩, h2, h3, h4, ⟨h5, h6⟩, ⟨h7, h8⟩, h9, h10, h11⟩ := h
  have r : s.vm.Alike U.vm := hW.alike
  have kp : ∀ a : Nat, a < s.heap.size → ¬ A a → U.heap[a]? = s.heap[a]? := by rw [hU]; exact hS.2.1
  refine ⟨⟨fun w hw => ?_, fun q hq => va_Nw.warmF hW (h1b q hq)⟩, fun j hj => ⟨va_Z.moved r (((h2 j hj).1.kept kp).narrow hAB), va_T.moved r (((h2 j hj).2.kept kp).narrow hAB)⟩, vk_S.moved r ((h3.kept kp).narrow hAB), fun q hq => vk_R.warm hW (h4 q hq), ⟨vx_Zq.moved r ((h5.kept kp).narrow hAB), vx_Zq.moved r ((h6.kept kp).narrow hAB)⟩, ⟨va_Z.moved r ((h7.kept kp).narrow hAB), va_Zq.moved r ((h8.kept kp).narrow hAB)⟩, fun q hq => va_Nw.warmD hW (h9 q hq), fun x hx => va_Nw.cast r (h10 x hx), fun q hq => va_Nc.moved r (h11 q hq)⟩
  have hh := h1 w hw
  simp only [aNest, List.mem_cons, List.not_mem_nil, or_false] at hw
  rcases hw with rfl | rfl | rfl | rfl | rfl | rfl | rfl | rfl <;> exact va_Nw.warmM hW hh
/-- the array classes -/
def aTy (dA : Nat → ClassId) : List (ClassId × FieldType) := [(dA 8, .byte), (dA 9, .int), (dA 10, .long), (dA 11, .object "LineupDesk$Lineup"), (dA 12, .array .int)]
/-- the world in the midst of a method that began at s -/
def aW (D : va_G) (dA : Nat → ClassId) (ad adV : Nat → Nat) (σ : aS) (A : Nat → Prop) (s : State) (H : Heap) (locs : List Loc) : Prop :=
  va_K D vwCl (aTy dA) s ∧ va_P D vwCl (aWs ad dA σ) H ∧ va_D A (aWs ad dA σ) ∧ va_S A s.heap H locs ∧ (∀ q, s.heap.size ≤ q → A q) ∧ aE ad adV A s
/-- a method's start -/
def aPre (D : va_G) (dA : Nat → ClassId) (ad adV : Nat → Nat) (σ : aS) (sz : Nat) (as : List Value) : Array Value → State → Prop :=
  va_Pc as (fun U => U.heap.size = sz ∧ va_P D vwCl (aWs ad dA σ) U.heap ∧ va_K D vwCl (aTy dA) U ∧ va_D (fun _ => True) (aWs ad dA σ) ∧ aE ad adV (va_A (aWs ad dA σ) sz) U)
/-- its end -/
def aB (D : va_G) (dA : Nat → ClassId) (ad : Nat → Nat) (σ' : aS) (A : Nat → Prop) (t : State) : Prop := va_P D vwCl (aWs ad dA σ') t.heap ∧ va_K D vwCl (aTy dA) t ∧ va_D A (aWs ad dA σ')
def aQ (D : va_G) (dA : Nat → ClassId) (ad : Nat → Nat) (σ' : aS) (A : Nat → Prop) (v : Option Value) : Array Value → State → Outcome → State → Prop := fun _ st oc t => oc = .returned v ∧ aB D dA ad σ' A t ∧ va_F A st t
/-- A CONTRACT: from σ with these arguments the method returns v and leaves σ'; no cell comes -/
def aM (l : Launch) (y : MethodName) (b : ByteArray) (nL : Nat) (rt : Option FieldType) (rm : Room) (as : (Nat → Nat) → List Value) (σ : aS) (v : Option Value) (σ' : aS) : Prop :=
  ∀ (D : va_G) (dA : Nat → ClassId) (ad adV : Nat → Nat) (sz : Nat), Met l y (Cond.code y b nL rt :: aTs) rm (aPre D dA ad adV σ sz (as ad)) (aQ D dA ad σ' (va_A (aWs ad dA σ) sz) v) 0 0 (va_A (aWs ad dA σ) sz)
/-- what a body knows of its machine -/
def aX (p : Program) (m : MethodId) (c : Code) (cc : ByteArray) (nL : Nat) (s : State) (args : Array Value) (Ts : List Cond) (own : String) (meth : Method) (ret : Option FieldType) : Prop :=
  CallFix p m c cc nL s args Ts own ∧ meth.sig.returnType = ret ∧ meth.locks = false
theorem aPre.blind {D : va_G} {dA : Nat → ClassId} {ad adV : Nat → Nat} {σ : aS} {sz : Nat} {as : List Value} : FrameBlind (aPre D dA ad adV σ sz as) := by
  intro a U g mk q
  obtain ⟨q0, q1, qP, qK, qD, qE⟩ := q
  exact ⟨q0, q1, qP, va_K.moved (u := U) (U := U.calling g mk a) (Vm.Alike.refl U.vm) qK, qD, qE.calling⟩
theorem aM.of {l : Launch} {y : MethodName} {rm : Room} {as : (Nat → Nat) → List Value} {σ σ' : aS} {v : Option Value} {cc : ByteArray} {maxL : Nat} {ret : Option FieldType} (hy : plainName y.cls = true) (hn : ∀ ad, (lg_sl (as ad)).length ≤ maxL)
    (body : ∀ (p : Program) (e : Env) (s : State) (m : MethodId) (args : Array Value) (below : List Frame) (meth : Method) (c : Code) (D : va_G) (dA : Nat → ClassId) (ad adV : Nat → Nat) (A : Nat → Prop) (ls : Array Slot), aX p m c cc maxL s args aTs y.cls meth ret → aW D dA ad adV σ A s s.heap [] → lv_has ls maxL (lv_args 0 (as ad)) →
      W p l e rm s m args below meth c s.heap [] 0 0 (MQ below (aQ D dA ad σ' A v) args s 0 0 A) (F0 m 0 ls [])) : aM l y cc maxL ret rm as σ v σ' := by
  intro D dA ad adV sz
  refine Met.ofW (cc := cc) (maxL := maxL) (ret := ret) hy rfl ?_
  intro p e s m args below meth c s₁ B hml hv
  obtain ⟨rfl, hsz, hP, hK, hD0, hE⟩ := hv
  have hts := atoms_spec (ws := Cond.code y cc maxL ret :: aTs) B.pre
  have hown : s.vm.findClass y.cls = some m.cls := findClass_of_methodNamed B.named
  subst hsz
  have hD := hD0.self (sz := s.heap.size)
  have hl := lv_entry (as ad) (n := maxL) (hn ad)
  rw [lg_entry_eq]
  exact body p e s m _ below meth c D dA ad adV _ _ ⟨⟨B.exec, B.bytes, hml, hown, fun w h => hts w (List.mem_cons_of_mem _ h)⟩, B.returns, B.notSynchronized⟩ ⟨hK, hP, hD, va_S.rf, fun q h => Or.inr h, hE⟩ hl
/-- what a call asks of the callee's name -/
def aCal (C : String) (y : MethodName) (b : ByteArray) (nL : Nat) (rt : Option FieldType) (n : Nat) : Prop := Cond.instanceMethod y ∈ aTs ∧ Cond.selects C y y ∈ aTs ∧ Cond.initialized C ∈ aTs ∧ Cond.code y b nL rt ∈ aTs ∧ (y.cls = C ∧ y.cls ≠ "java/lang/invoke/MethodHandle" ∧ y.cls ≠ "java/lang/invoke/VarHandle" ∧ (parseMethodDescriptor y.desc).map (fun d => d.parameters.length) = some n)
def aCalS (y : MethodName) (b : ByteArray) (nL : Nat) (rt : Option FieldType) (n : Nat) : Prop := Cond.static y ∈ aTs ∧ Cond.initialized y.cls ∈ aTs ∧ Cond.code y b nL rt ∈ aTs ∧ (y.cls ≠ "java/lang/invoke/MethodHandle" ∧ y.cls ≠ "java/lang/invoke/VarHandle" ∧ (parseMethodDescriptor y.desc).map (fun d => d.parameters.length) = some n)
theorem aCal.good {C : String} {y : MethodName} {b : ByteArray} {nL n idx : Nat} {rt : Option FieldType} {own : String} (h : aCal C y b nL rt n) (hl : Cond.methodLink own idx y ∈ aTs) : GoodIn aTs (wsV own idx C y (Cond.code y b nL rt :: aTs)) := by
  obtain ⟨h1, h2, h3, h4, -⟩ := h
  intro w hw
  simp only [wsV, List.cons_append, List.nil_append, List.mem_cons] at hw
  rcases hw with rfl | rfl | rfl | rfl | rfl | hw
  · exact aTs_good _ hl
  · exact aTs_good _ h1
  · exact aTs_good _ h2
  · exact aTs_good _ h3
  · exact aTs_good _ h4
  · exact aTs_good _ hw
theorem aCalS.goodW {y : MethodName} {b : ByteArray} {nL n : Nat} {rt : Option FieldType} (h : aCalS y b nL rt n) : GoodIn aTs (Cond.code y b nL rt :: aTs) := by
  obtain ⟨h1, h2, h3, -⟩ := h
  intro w hw
  rcases List.mem_cons.mp hw with rfl | hw
  · exact aTs_good _ h3
  · exact aTs_good _ hw
theorem aCalS.good {y : MethodName} {b : ByteArray} {nL n idx : Nat} {rt : Option FieldType} {own : String} (h : aCalS y b nL rt n) (hl : Cond.methodLink own idx y ∈ aTs) : GoodIn aTs (va_wsS own idx y (Cond.code y b nL rt :: aTs)) := by
  have hg := h.goodW
  obtain ⟨h1, h2, h3, -⟩ := h
  intro w hw
  simp only [va_wsS, List.cons_append, List.nil_append, List.mem_cons] at hw
  rcases hw with rfl | rfl | rfl | hw
  · exact aTs_good _ hl
  · exact aTs_good _ h1
  · exact aTs_good _ h2
  · exact hg w (List.mem_cons.mpr hw)
section AR
variable {p : Program} {l : Launch} {e : Env} {R : Room} {s : State} {m : MethodId} {args : Array Value} {below : List Frame} {meth : Method} {c : Code} {H : Heap} {locs : List Loc} {cells slots : Nat} {Q : State → Prop}
variable {cc : ByteArray} {pc nL : Nat} {ls : Array Slot} {rest : List Value} {Ts : List Cond} {own : String} {ret : Option FieldType} {D : va_G} {dA : Nat → ClassId} {ad adV : Nat → Nat} {σ : aS} {A : Nat → Prop}
theorem a_iret {v : Int32} (C : aX p m c cc nL s args Ts own meth (some .int)) (hw : aW D dA ad adV σ A s H locs) (hdg : decode cc pc = .ok (.ireturn, 1)) : W p l e R s m args below meth c H locs 0 0 (MQ below (aQ D dA ad σ A (some (.int v))) args s 0 0 A) (F0 m pc ls [.int v]) := by
  obtain ⟨⟨hx, hb, -, -, -⟩, hr, hlocks⟩ := C
  obtain ⟨hK, hP, hD, hS, -, -⟩ := hw
  exact W.iret hx hb hr (fun t ht hW => ⟨rfl, ⟨by rw [ht]; exact hP, va_K.moved hW.alike hK, hD⟩, hS.F ht⟩) hS.2.2 hdg
theorem a_zret {v : Int32} {ty : FieldType} (C : aX p m c cc nL s args Ts own meth (some ty)) (hn : narrow ty (.int v) = .int v) (hw : aW D dA ad adV σ A s H locs) (hdg : decode cc pc = .ok (.ireturn, 1)) : W p l e R s m args below meth c H locs 0 0 (MQ below (aQ D dA ad σ A (some (.int v))) args s 0 0 A) (F0 m pc ls [.int v]) := by
  obtain ⟨⟨hx, hb, -, -, -⟩, hr, hlocks⟩ := C
  obtain ⟨hK, hP, hD, hS, -, -⟩ := hw
  exact W.zret hx hb hr hn (fun t ht hW => ⟨rfl, ⟨by rw [ht]; exact hP, va_K.moved hW.alike hK, hD⟩, hS.F ht⟩) hS.2.2 hdg
theorem a_lret {v : Int64} (C : aX p m c cc nL s args Ts own meth (some .long)) (hw : aW D dA ad adV σ A s H locs) (hdg : decode cc pc = .ok (.lreturn, 1)) : W p l e R s m args below meth c H locs 0 0 (MQ below (aQ D dA ad σ A (some (.long v))) args s 0 0 A) (F0 m pc ls [.long v]) := by
  obtain ⟨⟨hx, hb, -, -, -⟩, hr, hlocks⟩ := C
  obtain ⟨hK, hP, hD, hS, -, -⟩ := hw
  exact W.lret hx hb hr (fun t ht hW => ⟨rfl, ⟨by rw [ht]; exact hP, va_K.moved hW.alike hK, hD⟩, hS.F ht⟩) hS.2.2 hdg
theorem a_vret (C : aX p m c cc nL s args Ts own meth none) (hw : aW D dA ad adV σ A s H locs) (hdg : decode cc pc = .ok (.return_, 1)) : W p l e R s m args below meth c H locs 0 0 (MQ below (aQ D dA ad σ A none) args s 0 0 A) (F0 m pc ls []) := by
  obtain ⟨⟨hx, hb, -, -, -⟩, hr, hlocks⟩ := C
  obtain ⟨hK, hP, hD, hS, -, -⟩ := hw
  exact W.vret hx hb hr (fun t ht hW => ⟨rfl, ⟨by rw [ht]; exact hP, va_K.moved hW.alike hK, hD⟩, hS.F ht⟩) hS.2.2 hdg
theorem aCq_o {o t n : Nat} (h : t < 8) : aCq ad dA σ o t n = .inr (t, aFs ad σ o (aT t)) := if_pos h
theorem aCq_i {o t n : Nat} (h : ¬ t < 8) (h2 : t < 10) : aCq ad dA σ o t n = .inl (dA t, n, .inl (aI σ o)) := by unfold aCq; rw [if_neg h, if_pos h2]
theorem aCq_j {o n : Nat} : aCq ad dA σ o 10 n = .inl (dA 10, n, .inr (.inl (aJ σ o))) := by unfold aCq; rw [if_neg (by decide), if_neg (by decide), if_pos rfl]
theorem aCq_p {o t n : Nat} (h : 10 < t) : aCq ad dA σ o t n = .inl (dA t, n, .inr (.inr (.inr (.inr (fun j => (aP σ o j).map ad))))) := by unfold aCq; rw [if_neg (by omega), if_neg (by omega), if_neg (by omega)]
/-- getfield of an int, a long, a reference -/
theorem a_geti {C : String} {T : u_T} {N ci n index o : Nat} (X : aX p m c cc nL s args Ts own meth ret) (hin : ∀ w ∈ u_ws C T N, w ∈ Ts) (hw : aW D dA ad adV σ A s H locs) (hk : (aK σ)[o]? = some (ci, n)) (hci : ci < 8) (hc : vwCl[ci]? = some (C, T, N)) (k : Nat) (hkN : k < N) (ht : (aT ci)[k]? = some 0) (hl : Cond.fieldLink own index (T k).1 (T k).2.1 (T k).2.2.1 ∈ Ts) (hdg : decode cc pc = .ok (.getfield index, 3))
    (kk : W p l e R s m args below meth c H locs cells slots Q (F0 m (pc + 3) ls (.int (aI σ o k) :: rest))) : W p l e R s m args below meth c H locs cells slots Q (F0 m pc ls (.ref (ad o) :: rest)) := by
  obtain ⟨⟨hx, hb, -, hown, hts⟩, -, -⟩ := X
  obtain ⟨hK, hP, -, -, -, -⟩ := hw
  exact va_get hx hb hts hin hown hK hP o ((aWs_get hk).trans (by rw [aCq_o hci])) hc k hkN (hts _ hl) (fun _ h9 => h9) ((aFs_get ht).trans (by rfl)) hdg kk
theorem a_getj {C : String} {T : u_T} {N ci n index o : Nat} (X : aX p m c cc nL s args Ts own meth ret) (hin : ∀ w ∈ u_ws C T N, w ∈ Ts) (hw : aW D dA ad adV σ A s H locs) (hk : (aK σ)[o]? = some (ci, n)) (hci : ci < 8) (hc : vwCl[ci]? = some (C, T, N)) (k : Nat) (hkN : k < N) (ht : (aT ci)[k]? = some 1) (hl : Cond.fieldLink own index (T k).1 (T k).2.1 (T k).2.2.1 ∈ Ts) (hdg : decode cc pc = .ok (.getfield index, 3))
    (kk : W p l e R s m args below meth c H locs cells slots Q (F0 m (pc + 3) ls (.long (aJ σ o k) :: rest))) : W p l e R s m args below meth c H locs cells slots Q (F0 m pc ls (.ref (ad o) :: rest)) := by
  obtain ⟨⟨hx, hb, -, hown, hts⟩, -, -⟩ := X
  obtain ⟨hK, hP, -, -, -, -⟩ := hw
  exact va_get hx hb hts hin hown hK hP o ((aWs_get hk).trans (by rw [aCq_o hci])) hc k hkN (hts _ hl) (fun _ h9 => h9) ((aFs_get ht).trans (by rfl)) hdg kk
theorem a_getp {C : String} {T : u_T} {N ci n index o q : Nat} (X : aX p m c cc nL s args Ts own meth ret) (hin : ∀ w ∈ u_ws C T N, w ∈ Ts) (hw : aW D dA ad adV σ A s H locs) (hk : (aK σ)[o]? = some (ci, n)) (hci : ci < 8) (hc : vwCl[ci]? = some (C, T, N)) (k : Nat) (hkN : k < N) (ht : (aT ci)[k]? = some 2) (hl : Cond.fieldLink own index (T k).1 (T k).2.1 (T k).2.2.1 ∈ Ts) (hq : aP σ o k = some q) (hdg : decode cc pc = .ok (.getfield index, 3))
    (kk : W p l e R s m args below meth c H locs cells slots Q (F0 m (pc + 3) ls (.ref (ad q) :: rest))) : W p l e R s m args below meth c H locs cells slots Q (F0 m pc ls (.ref (ad o) :: rest)) := by
  obtain ⟨⟨hx, hb, -, hown, hts⟩, -, -⟩ := X
  obtain ⟨hK, hP, -, -, -, -⟩ := hw
  exact va_get hx hb hts hin hown hK hP o ((aWs_get hk).trans (by rw [aCq_o hci])) hc k hkN (hts _ hl) (fun _ h9 => h9) ((aFs_get ht).trans (by simp [aFv, hq, va_rf])) hdg kk
/-- putfield -/
theorem a_puti {C : String} {T : u_T} {N ci n index o : Nat} {v : Int32} {ty : FieldType} {ty0 : Nat → FieldType} (X : aX p m c cc nL s args Ts own meth ret) (hin : ∀ w ∈ u_ws C T N, w ∈ Ts) (hty : ∀ k, k < N → parseFieldDescriptor (T k).2.2.1 = some (ty0 k)) (hnm : ∀ a, a < N → ∀ b, b < N → a ≠ b → (T a).2.1 ≠ (T b).2.1) (hw : aW D dA ad adV σ A s H locs) (hk : (aK σ)[o]? = some (ci, n)) (hci : ci < 8) (hc : vwCl[ci]? = some (C, T, N)) (k : Nat) (hkN : k < N) (ht : (aT ci)[k]? = some 0) (hl : Cond.fieldLink own index (T k).1 (T k).2.1 (T k).2.2.1 ∈ Ts) (hfin : (T k).2.2.2 = false) (hd : parseFieldDescriptor (T k).2.2.1 = some ty) (hn : narrow ty (.int v) = .int v) (hfit : fits ty (.int v) = true) (hdg : decode cc pc = .ok (.putfield index, 3))
    (kk : ∀ (H1 : Heap) (locs1 : List Loc), aW D dA ad adV (aPI σ o k v) A s H1 locs1 → W p l e R s m args below meth c H1 locs1 cells slots Q (F0 m (pc + 3) ls rest)) : W p l e R s m args below meth c H locs cells slots Q (F0 m pc ls (.int v :: .ref (ad o) :: rest)) := by
  obtain ⟨⟨hx, hb, -, hown, hts⟩, -, -⟩ := X
  obtain ⟨hK, hP, hD, hS, hA, hE⟩ := hw
  refine va_put hx hb hts hin ty0 hty hnm hown hK hP hD hS o ((aWs_get hk).trans (by rw [aCq_o hci])) hc k hkN (hts _ hl) (fun _ h9 => h9) hfin hd hn hfit (by rw [aFs_len]; exact (List.getElem?_eq_some_iff.mp ht).1) hdg (fun H1 locs1 hP1 hD1 hS1 => ?_)
  rw [aWs_PI hk hci ht] at hP1 hD1
  exact kk H1 locs1 ⟨hK, hP1, hD1, hS1, hA, hE⟩
theorem a_putj {C : String} {T : u_T} {N ci n index o : Nat} {v : Int64} {ty0 : Nat → FieldType} (X : aX p m c cc nL s args Ts own meth ret) (hin : ∀ w ∈ u_ws C T N, w ∈ Ts) (hty : ∀ k, k < N → parseFieldDescriptor (T k).2.2.1 = some (ty0 k)) (hnm : ∀ a, a < N → ∀ b, b < N → a ≠ b → (T a).2.1 ≠ (T b).2.1) (hw : aW D dA ad adV σ A s H locs) (hk : (aK σ)[o]? = some (ci, n)) (hci : ci < 8) (hc : vwCl[ci]? = some (C, T, N)) (k : Nat) (hkN : k < N) (ht : (aT ci)[k]? = some 1) (hl : Cond.fieldLink own index (T k).1 (T k).2.1 (T k).2.2.1 ∈ Ts) (hfin : (T k).2.2.2 = false) (hd : parseFieldDescriptor (T k).2.2.1 = some .long) (hdg : decode cc pc = .ok (.putfield index, 3))
    (kk : ∀ (H1 : Heap) (locs1 : List Loc), aW D dA ad adV (aPJ σ o k v) A s H1 locs1 → W p l e R s m args below meth c H1 locs1 cells slots Q (F0 m (pc + 3) ls rest)) : W p l e R s m args below meth c H locs cells slots Q (F0 m pc ls (.long v :: .ref (ad o) :: rest)) := by
  obtain ⟨⟨hx, hb, -, hown, hts⟩, -, -⟩ := X
  obtain ⟨hK, hP, hD, hS, hA, hE⟩ := hw
  refine va_put hx hb hts hin ty0 hty hnm hown hK hP hD hS o ((aWs_get hk).trans (by rw [aCq_o hci])) hc k hkN (hts _ hl) (fun _ h9 => h9) hfin hd rfl rfl (by rw [aFs_len]; exact (List.getElem?_eq_some_iff.mp ht).1) hdg (fun H1 locs1 hP1 hD1 hS1 => ?_)
  rw [aWs_PJ hk hci ht] at hP1 hD1
  exact kk H1 locs1 ⟨hK, hP1, hD1, hS1, hA, hE⟩
theorem a_putp {C : String} {T : u_T} {N ci n index o q : Nat} {ty : FieldType} {ty0 : Nat → FieldType} (X : aX p m c cc nL s args Ts own meth ret) (hin : ∀ w ∈ u_ws C T N, w ∈ Ts) (hty : ∀ k, k < N → parseFieldDescriptor (T k).2.2.1 = some (ty0 k)) (hnm : ∀ a, a < N → ∀ b, b < N → a ≠ b → (T a).2.1 ≠ (T b).2.1) (hw : aW D dA ad adV σ A s H locs) (hk : (aK σ)[o]? = some (ci, n)) (hci : ci < 8) (hc : vwCl[ci]? = some (C, T, N)) (k : Nat) (hkN : k < N) (ht : (aT ci)[k]? = some 2) (hl : Cond.fieldLink own index (T k).1 (T k).2.1 (T k).2.2.1 ∈ Ts) (hfin : (T k).2.2.2 = false) (hd : parseFieldDescriptor (T k).2.2.1 = some ty) (hn : narrow ty (.ref (ad q)) = .ref (ad q)) (hfit : fits ty (.ref (ad q)) = true) (hdg : decode cc pc = .ok (.putfield index, 3))
    (kk : ∀ (H1 : Heap) (locs1 : List Loc), aW D dA ad adV (aPP σ o k (some q)) A s H1 locs1 → W p l e R s m args below meth c H1 locs1 cells slots Q (F0 m (pc + 3) ls rest)) : W p l e R s m args below meth c H locs cells slots Q (F0 m pc ls (.ref (ad q) :: .ref (ad o) :: rest)) := by
  obtain ⟨⟨hx, hb, -, hown, hts⟩, -, -⟩ := X
  obtain ⟨hK, hP, hD, hS, hA, hE⟩ := hw
  refine va_put hx hb hts hin ty0 hty hnm hown hK hP hD hS o ((aWs_get hk).trans (by rw [aCq_o hci])) hc k hkN (hts _ hl) (fun _ h9 => h9) hfin hd hn hfit (by rw [aFs_len]; exact (List.getElem?_eq_some_iff.mp ht).1) hdg (fun H1 locs1 hP1 hD1 hS1 => ?_)
  have e1 := aWs_PP (ad := ad) (dA := dA) (v := some q) hk hci ht
  have e2 : va_rf ((some q).map ad) = Value.ref (ad q) := rfl
  rw [e2] at e1
  rw [e1] at hP1 hD1
  exact kk H1 locs1 ⟨hK, hP1, hD1, hS1, hA, hE⟩
/-- arrays -/
theorem a_iald {n o : Nat} {i : Int32} (X : aX p m c cc nL s args Ts own meth ret) (hw : aW D dA ad adV σ A s H locs) (hk : (aK σ)[o]? = some (9, n)) (hin : vp_in i n) {j : Nat} (hj : i.toNatClampNeg = j) (hdg : decode cc pc = .ok (.iaload, 1))
    (kk : W p l e R s m args below meth c H locs cells slots Q (F0 m (pc + 1) ls (.int (aI σ o j) :: rest))) : W p l e R s m args below meth c H locs cells slots Q (F0 m pc ls (.int i :: .ref (ad o) :: rest)) := by
  subst hj
  obtain ⟨⟨hx, hb, -, -, -⟩, -, -⟩ := X
  obtain ⟨hK, hP, -, -, -, -⟩ := hw
  exact va_iald hx hb hK hP o 1 ((aWs_get hk).trans (by rw [aCq_i (by decide) (by decide)])) rfl hin hdg kk
theorem a_bald {n o : Nat} {i : Int32} (X : aX p m c cc nL s args Ts own meth ret) (hw : aW D dA ad adV σ A s H locs) (hk : (aK σ)[o]? = some (8, n)) (hin : vp_in i n) {j : Nat} (hj : i.toNatClampNeg = j) (hdg : decode cc pc = .ok (.baload, 1))
    (kk : W p l e R s m args below meth c H locs cells slots Q (F0 m (pc + 1) ls (.int (aI σ o j) :: rest))) : W p l e R s m args below meth c H locs cells slots Q (F0 m pc ls (.int i :: .ref (ad o) :: rest)) := by
  subst hj
  obtain ⟨⟨hx, hb, -, -, -⟩, -, -⟩ := X
  obtain ⟨hK, hP, -, -, -, -⟩ := hw
  exact va_bald hx hb hK hP o 0 ((aWs_get hk).trans (by rw [aCq_i (by decide) (by decide)])) rfl hin hdg kk
theorem a_lald {n o : Nat} {i : Int32} (X : aX p m c cc nL s args Ts own meth ret) (hw : aW D dA ad adV σ A s H locs) (hk : (aK σ)[o]? = some (10, n)) (hin : vp_in i n) {j : Nat} (hj : i.toNatClampNeg = j) (hdg : decode cc pc = .ok (.laload, 1))
    (kk : W p l e R s m args below meth c H locs cells slots Q (F0 m (pc + 1) ls (.long (aJ σ o j) :: rest))) : W p l e R s m args below meth c H locs cells slots Q (F0 m pc ls (.int i :: .ref (ad o) :: rest)) := by
  subst hj
  obtain ⟨⟨hx, hb, -, -, -⟩, -, -⟩ := X
  obtain ⟨hK, hP, -, -, -, -⟩ := hw
  exact va_lald hx hb hK hP o 2 ((aWs_get hk).trans (by rw [aCq_j])) rfl hin hdg kk
theorem a_aald {n o q : Nat} {i : Int32} (X : aX p m c cc nL s args Ts own meth ret) (hw : aW D dA ad adV σ A s H locs) (hk : (aK σ)[o]? = some (11, n)) (hin : vp_in i n) {j : Nat} (hj : i.toNatClampNeg = j) (hq : aP σ o j = some q) (hdg : decode cc pc = .ok (.aaload, 1))
    (kk : W p l e R s m args below meth c H locs cells slots Q (F0 m (pc + 1) ls (.ref (ad q) :: rest))) : W p l e R s m args below meth c H locs cells slots Q (F0 m pc ls (.int i :: .ref (ad o) :: rest)) := by
  subst hj
  obtain ⟨⟨hx, hb, -, -, -⟩, -, -⟩ := X
  obtain ⟨hK, hP, -, -, -, -⟩ := hw
  refine va_aldq hx hb hK hP o 3 (C := "LineupDesk$Lineup") ((aWs_get hk).trans (by rw [aCq_p (by decide)])) rfl hin hdg ?_
  rw [hq]
  exact kk
/-- an array of arrays -/
theorem a_rald {n o q : Nat} {i : Int32} (X : aX p m c cc nL s args Ts own meth ret) (hw : aW D dA ad adV σ A s H locs) (hk : (aK σ)[o]? = some (12, n)) (hin : vp_in i n) {j : Nat} (hj : i.toNatClampNeg = j) (hq : aP σ o j = some q) (hdg : decode cc pc = .ok (.aaload, 1))
    (kk : W p l e R s m args below meth c H locs cells slots Q (F0 m (pc + 1) ls (.ref (ad q) :: rest))) : W p l e R s m args below meth c H locs cells slots Q (F0 m pc ls (.int i :: .ref (ad o) :: rest)) := by
  subst hj
  obtain ⟨⟨hx, hb, -, -, -⟩, -, -⟩ := X
  obtain ⟨hK, hP, -, -, -, -⟩ := hw
  have ha : (aWs ad dA σ)[o]? = some (ad o, .inl (dA 12, n, .inr (.inr (.inr (.inr (fun j => (aP σ o j).map ad)))))) := (aWs_get hk).trans (by rw [aCq_p (by decide)])
  have hlt : i.toNatClampNeg < n := Nat.not_le.mp fun q => hin (Or.inr q)
  refine W.aald (v := .ref (ad q)) (ty := .array .int) hx hb (hP o _ ha) ((hK.2 4 _ rfl).1 n (fun j => va_rf ((aP σ o j).map ad))) rfl (fun q => by cases q) (by show ¬ (i < 0 ∨ (arrV _ _ _).slots.size ≤ _); rw [arrV_size]; exact hin) ?_ rfl rfl hdg kk
  show (arrV _ _ _).slots[_]? = _
  rw [arrV_read _ _ hlt]
  show some (va_rf ((aP σ o i.toNatClampNeg).map ad)) = _
  rw [hq]
  rfl
theorem a_iast {n o : Nat} {i x : Int32} (X : aX p m c cc nL s args Ts own meth ret) (hw : aW D dA ad adV σ A s H locs) (hk : (aK σ)[o]? = some (9, n)) (hin : vp_in i n) {j : Nat} (hj : i.toNatClampNeg = j) (hdg : decode cc pc = .ok (.iastore, 1))
    (kk : ∀ (H1 : Heap) (locs1 : List Loc), aW D dA ad adV (aPI σ o j x) A s H1 locs1 → W p l e R s m args below meth c H1 locs1 cells slots Q (F0 m (pc + 1) ls rest)) : W p l e R s m args below meth c H locs cells slots Q (F0 m pc ls (.int x :: .int i :: .ref (ad o) :: rest)) := by
  subst hj
  obtain ⟨⟨hx, hb, -, -, -⟩, -, -⟩ := X
  obtain ⟨hK, hP, hD, hS, hA, hE⟩ := hw
  refine va_iast hx hb hK hP hD hS o 1 ((aWs_get hk).trans (by rw [aCq_i (by decide) (by decide)])) rfl hin hdg (fun H1 locs1 hP1 hD1 hS1 => ?_)
  rw [aWs_AI hk (by decide) (by decide)] at hP1 hD1
  exact kk H1 locs1 ⟨hK, hP1, hD1, hS1, hA, hE⟩
theorem a_bast {n o : Nat} {i x : Int32} (X : aX p m c cc nL s args Ts own meth ret) (hw : aW D dA ad adV σ A s H locs) (hk : (aK σ)[o]? = some (8, n)) (hin : vp_in i n) {j : Nat} (hj : i.toNatClampNeg = j) (hdg : decode cc pc = .ok (.bastore, 1))
    (kk : ∀ (H1 : Heap) (locs1 : List Loc), aW D dA ad adV (aPI σ o j (vp_nar .byte x)) A s H1 locs1 → W p l e R s m args below meth c H1 locs1 cells slots Q (F0 m (pc + 1) ls rest)) : W p l e R s m args below meth c H locs cells slots Q (F0 m pc ls (.int x :: .int i :: .ref (ad o) :: rest)) := by
  subst hj
  obtain ⟨⟨hx, hb, -, -, -⟩, -, -⟩ := X
  obtain ⟨hK, hP, hD, hS, hA, hE⟩ := hw
  refine va_bast hx hb hK hP hD hS o 0 ((aWs_get hk).trans (by rw [aCq_i (by decide) (by decide)])) rfl hin hdg (fun H1 locs1 hP1 hD1 hS1 => ?_)
  rw [aWs_AI hk (by decide) (by decide)] at hP1 hD1
  exact kk H1 locs1 ⟨hK, hP1, hD1, hS1, hA, hE⟩
theorem a_last {n o : Nat} {i : Int32} {x : Int64} (X : aX p m c cc nL s args Ts own meth ret) (hw : aW D dA ad adV σ A s H locs) (hk : (aK σ)[o]? = some (10, n)) (hin : vp_in i n) {j : Nat} (hj : i.toNatClampNeg = j) (hdg : decode cc pc = .ok (.lastore, 1))
    (kk : ∀ (H1 : Heap) (locs1 : List Loc), aW D dA ad adV (aPJ σ o j x) A s H1 locs1 → W p l e R s m args below meth c H1 locs1 cells slots Q (F0 m (pc + 1) ls rest)) : W p l e R s m args below meth c H locs cells slots Q (F0 m pc ls (.long x :: .int i :: .ref (ad o) :: rest)) := by
  subst hj
  obtain ⟨⟨hx, hb, -, -, -⟩, -, -⟩ := X
  obtain ⟨hK, hP, hD, hS, hA, hE⟩ := hw
  refine va_last hx hb hK hP hD hS o 2 ((aWs_get hk).trans (by rw [aCq_j])) rfl hin hdg (fun H1 locs1 hP1 hD1 hS1 => ?_)
  rw [aWs_AJ hk] at hP1 hD1
  exact kk H1 locs1 ⟨hK, hP1, hD1, hS1, hA, hE⟩
theorem a_aast {n o q nq : Nat} {i : Int32} (X : aX p m c cc nL s args Ts own meth ret) (hw : aW D dA ad adV σ A s H locs) (hk : (aK σ)[o]? = some (11, n)) (hq : (aK σ)[q]? = some (2, nq)) (hin : vp_in i n) {j : Nat} (hj : i.toNatClampNeg = j) (hdg : decode cc pc = .ok (.aastore, 1))
    (kk : ∀ (H1 : Heap) (locs1 : List Loc), aW D dA ad adV (aPP σ o j (some q)) A s H1 locs1 → W p l e R s m args below meth c H1 locs1 cells slots Q (F0 m (pc + 1) ls rest)) : W p l e R s m args below meth c H locs cells slots Q (F0 m pc ls (.ref (ad q) :: .int i :: .ref (ad o) :: rest)) := by
  subst hj
  obtain ⟨⟨hx, hb, -, -, -⟩, -, -⟩ := X
  obtain ⟨hK, hP, hD, hS, hA, hE⟩ := hw
  refine va_astq hx hb hK hP hD hS o 3 q 2 (r := (RX2, TX2, 11)) ((aWs_get hk).trans (by rw [aCq_p (by decide)])) rfl ((aWs_get hq).trans (by rw [aCq_o (by decide)])) rfl hin hdg (fun H1 locs1 hP1 hD1 hS1 => ?_)
  have e1 := aWs_AP (ad := ad) (dA := dA) (k := i.toNatClampNeg) (v := some q) hk (by decide)
  have e2 : (some q).map ad = some (ad q) := rfl
  rw [e2] at e1
  rw [e1] at hP1 hD1
  exact kk H1 locs1 ⟨hK, hP1, hD1, hS1, hA, hE⟩
theorem a_alen {n o t : Nat} {v : Int32} (X : aX p m c cc nL s args Ts own meth ret) (hw : aW D dA ad adV σ A s H locs) (hk : (aK σ)[o]? = some (t, n)) (ht : ¬ t < 8) (ht2 : t < 10) (hv : Int32.ofNat n = v) (hdg : decode cc pc = .ok (.arraylength, 1))
    (kk : W p l e R s m args below meth c H locs cells slots Q (F0 m (pc + 1) ls (.int v :: rest))) : W p l e R s m args below meth c H locs cells slots Q (F0 m pc ls (.ref (ad o) :: rest)) := by
  obtain ⟨⟨hx, hb, -, -, -⟩, -, -⟩ := X
  obtain ⟨hK, hP, -, -, -, -⟩ := hw
  have e := (aWs_get (ad := ad) (dA := dA) hk).trans (by rw [aCq_i ht ht2])
  rcases (show t = 8 ∨ t = 9 by omega) with rfl | rfl
  · exact va_alen hx hb hK hP o 0 e (ty := .byte) rfl hv hdg kk
  · exact va_alen hx hb hK hP o 1 e (ty := .int) rfl hv hdg kk
theorem a_alenq {n o : Nat} {v : Int32} (X : aX p m c cc nL s args Ts own meth ret) (hw : aW D dA ad adV σ A s H locs) (hk : (aK σ)[o]? = some (11, n)) (hv : Int32.ofNat n = v) (hdg : decode cc pc = .ok (.arraylength, 1))
    (kk : W p l e R s m args below meth c H locs cells slots Q (F0 m (pc + 1) ls (.int v :: rest))) : W p l e R s m args below meth c H locs cells slots Q (F0 m pc ls (.ref (ad o) :: rest)) := by
  obtain ⟨⟨hx, hb, -, -, -⟩, -, -⟩ := X
  obtain ⟨hK, hP, -, -, -, -⟩ := hw
  exact va_alen hx hb hK hP o 3 ((aWs_get (ad := ad) (dA := dA) hk).trans (by rw [aCq_p (by decide)])) (ty := .object "LineupDesk$Lineup") rfl hv hdg kk
/-- static tables -/
theorem a_gets {index j : Nat} (X : aX p m c cc nL s args Ts own meth ret) (hw : aW D dA ad adV σ A s H locs) (hj : j < 3) (hl : Cond.fieldLink own index "LineupDesk" (aSn j) "[I" ∈ Ts) (hdg : decode cc pc = .ok (.getstatic index, 3))
    (kk : W p l e R s m args below meth c H locs cells slots Q (F0 m (pc + 3) ls (.ref (ad (2000000 + j)) :: rest))) : W p l e R s m args below meth c H locs cells slots Q (F0 m pc ls rest) := by
  obtain ⟨⟨hx, hb, -, hown, hts⟩, -, -⟩ := X
  obtain ⟨-, -, -, hS, -, hE⟩ := hw
  exact va_gets hx hb (hE.2.1 j hj).1 hS hown (hts _ hl) (fun _ h9 => h9) hdg kk
theorem a_getsN {index j : Nat} (X : aX p m c cc nL s args Ts own meth ret) (hw : aW D dA ad adV σ A s H locs) (hj : j < 3) (hl : (own, index, aSn j) ∈ aNestF) (hdg : decode cc pc = .ok (.getstatic index, 3))
    (kk : W p l e R s m args below meth c H locs cells slots Q (F0 m (pc + 3) ls (.ref (ad (2000000 + j)) :: rest))) : W p l e R s m args below meth c H locs cells slots Q (F0 m pc ls rest) := by
  obtain ⟨⟨hx, hb, -, hown, hts⟩, -, -⟩ := X
  obtain ⟨-, -, -, hS, -, hE⟩ := hw
  exact va_getsN hx hb (hE.2.1 j hj).1 hS hown (va_Nw.use rfl (hE.1.2 _ hl)) (fun _ h9 => h9) hdg kk
theorem a_ti {j : Nat} {i : Int32} (X : aX p m c cc nL s args Ts own meth ret) (hw : aW D dA ad adV σ A s H locs) (hj : j < 3) (hin : vp_in i 4) {z : Nat} (hz : i.toNatClampNeg = z) (hdg : decode cc pc = .ok (.iaload, 1))
    (kk : W p l e R s m args below meth c H locs cells slots Q (F0 m (pc + 1) ls (.int (aSt j z) :: rest))) : W p l e R s m args below meth c H locs cells slots Q (F0 m pc ls (.int i :: .ref (ad (2000000 + j)) :: rest)) := by
  subst hz
  obtain ⟨⟨hx, hb, -, -, -⟩, -, -⟩ := X
  obtain ⟨-, -, -, hS, -, hE⟩ := hw
  exact va_ti hx hb (hE.2.1 j hj).2 hS hin rfl hdg kk
/-- a literal -/
theorem a_ldcS {index q : Nat} {tx : String} (X : aX p m c cc nL s args Ts own meth ret) (hw : aW D dA ad adV σ A s H locs) (hl : (own, index, tx, q) ∈ aLdc) (hdg : decode cc pc = .ok (.ldc index, 2))
    (kk : W p l e R s m args below meth c H locs cells slots Q (F0 m (pc + 2) ls (.ref (ad q) :: rest))) : W p l e R s m args below meth c H locs cells slots Q (F0 m pc ls rest) := by
  obtain ⟨⟨hx, hb, -, hown, -⟩, -, -⟩ := X
  obtain ⟨-, -, -, -, -, hE⟩ := hw
  exact va_ldcS hx hb hown (hE.2.2.2.1 _ hl) hdg kk
/-- behind any call -/
theorem a_back {σ' : aS} {v : Option Value} {st0 : List Value} {a : Array Value} (hw : aW D dA ad adV σ A s H locs) (hr : va_Run p l e R s m args below meth c H locs cells slots 0 0 (F0 m pc ls st0) rest (aQ D dA ad σ' (va_A (aWs ad dA σ) H.size) v a) (va_A (aWs ad dA σ) H.size))
    (kk : ∀ (H1 : Heap) (locs1 : List Loc), aW D dA ad adV σ' A s H1 locs1 → W p l e R s m args below meth c H1 locs1 cells slots Q (F0 m (pc + 3) ls (v.toList ++ rest))) : W p l e R s m args below meth c H locs cells slots Q (F0 m pc ls st0) := by
  obtain ⟨hK, hP, hD, hS, hA, hE⟩ := hw
  have hF : ∀ q, va_A (aWs ad dA σ) H.size q → A q := fun q h => by
    rcases h with ⟨k, e9, h⟩ | h
    · exact hD.2 k _ h
    · exact hA q (Nat.le_trans hS.1 h)
  intro T hT X
  obtain ⟨v', st₀, t, T', L, h0, X', hL, e1, e2, ⟨hv, ⟨bP, bK, bD⟩, hz, hk⟩, st⟩ := hr T hT X
  cases hv
  rw [h0] at hz hk
  have hal : s.vm.Alike t.vm := by rw [← e2]; exact X'.warmed.alike
  obtain ⟨t2, a1, b1⟩ := kk T'.heap (locs ++ L) ⟨hK, by rw [e1]; exact bP, bD.weaken (fun k q _ h => hF q.1 h), ⟨Nat.le_trans hS.1 (by rw [e1]; exact hz), fun q h1 h2 => by rw [e1, hk q (Nat.lt_of_lt_of_le h1 hS.1) (fun z => h2 (hF q z))]; exact hS.2.1 q h1 h2, fun q hq => by
      rcases List.mem_append.mp hq with h | h
      · exact hS.2.2 q h
      · exact hF _ (hL q h)⟩, hA, hE⟩ T' rfl X'
  exact ⟨t2, st t2 a1, b1⟩
theorem aW.pre {as : (Nat → Nat) → List Value} (hw : aW D dA ad adV σ A s H locs) : ∀ U : State, U.heap = H → s.WarmedH U.vm → aPre D dA ad adV σ H.size (as ad) (as ad).toArray U := by
  obtain ⟨hK, hP, hD, hS, hA, hE⟩ := hw
  intro U hU hW
  refine ⟨rfl, by rw [hU], by rw [hU]; exact hP, va_K.moved hW.alike hK, hD.weaken (fun _ _ _ _ => trivial), hE.call hS (fun q h => ?_) hU hW⟩
  rcases h with ⟨k, e9, h⟩ | h
  · exact hD.2 k _ h
  · exact hA q (Nat.le_trans hS.1 h)
variable {y : MethodName} {bytes : ByteArray} {maxL index n ci nn o : Nat} {rt : Option FieldType} {rm : Room} {σ' : aS} {v : Option Value} {As : (Nat → Nat) → List Value} {as : (Nat → Nat) → List Value} {st0 : List Value} {lv : List (Nat × Value)}
theorem a_callV {q : vw_C} (X : aX p m c cc nL s args aTs own meth ret) (hw : aW D dA ad adV σ A s H locs) (hM : aM l y bytes maxL rt rm as σ v σ') (hcal : aCal q.1 y bytes maxL rt n) (hlk : Cond.methodLink own index y ∈ aTs) (hrm : (rm.cells = 0 ∧ rm.slots = 0) ∧ rm.frames + 1 ≤ R.frames ∧ 8 + (maxL + 11) + rm.locals ≤ R.locals) (hk : (aK σ)[o]? = some (ci, nn)) (hci : ci < 8) (hc : vwCl[ci]? = some q) (has : as ad = .ref (ad o) :: As ad) (hn : (As ad).length = n) (hl : lv_has ls nL lv) (hst : st0 = (As ad).reverse ++ .ref (ad o) :: rest) (hcat : (rest.map fun v => v.category).sum ≤ 8) (hdg : decode cc pc = .ok (.invokevirtual index, 3)) (hcs : cells + 0 ≤ R.cells ∧ slots + 0 ≤ R.slots)
    (kk : ∀ (H1 : Heap) (locs1 : List Loc), aW D dA ad adV σ' A s H1 locs1 → W p l e R s m args below meth c H1 locs1 cells slots Q (F0 m (pc + 3) ls (v.toList ++ rest))) : W p l e R s m args below meth c H locs cells slots Q (F0 m pc ls st0) := by
  have hpre := hw.pre (as := as)
  have hMM := hM D dA ad adV H.size
  rw [has] at hpre hMM
  have cw : CallW R s args own q.1 index y bytes maxL rt (Cond.code y bytes maxL rt :: aTs) rm 0 0 n := cwV n X.1.2.2.2.2 (hcal.good hlk) rfl hrm.1.1 hrm.1.2 hcal.2.2.2.2 hrm.2
  exact a_back hw (va_runV (g := F0 m pc ls st0) (b := ad o) (As := As ad) (rest := rest) X.1 hMM cw ⟨aPre.blind, va_recv hw.1 hw.2.1 (ci := ci) (q0 := o) hc ((aWs_get hk).trans (by rw [aCq_o hci])), hpre⟩ rfl hn hl.1 hst (lv_room hcat) hdg hcs) kk
theorem a_callS (X : aX p m c cc nL s args aTs own meth ret) (hw : aW D dA ad adV σ A s H locs) (hM : aM l y bytes maxL rt rm as σ v σ') (hcal : aCalS y bytes maxL rt n) (hlk : Cond.methodLink own index y ∈ aTs) (hrm : (rm.cells = 0 ∧ rm.slots = 0) ∧ rm.frames + 1 ≤ R.frames ∧ 8 + (maxL + 11) + rm.locals ≤ R.locals) (hn : (as ad).length = n) (hl : lv_has ls nL lv) (hst : st0 = (as ad).reverse ++ rest) (hcat : (rest.map fun v => v.category).sum ≤ 8) (hdg : decode cc pc = .ok (.invokestatic index, 3)) (hcs : cells + 0 ≤ R.cells ∧ slots + 0 ≤ R.slots)
    (kk : ∀ (H1 : Heap) (locs1 : List Loc), aW D dA ad adV σ' A s H1 locs1 → W p l e R s m args below meth c H1 locs1 cells slots Q (F0 m (pc + 3) ls (v.toList ++ rest))) : W p l e R s m args below meth c H locs cells slots Q (F0 m pc ls st0) :=
  a_back hw (va_runS (g := F0 m pc ls st0) (As := as ad) (rest := rest) X.1 (hM D dA ad adV H.size) (va_cwS n X.1.2.2.2.2 (hcal.good hlk) rfl hrm.1.1 hrm.1.2 hcal.2.2.2 hrm.2) ⟨aPre.blind, hw.pre⟩ rfl hn hl.1 hst (lv_room hcat) hdg hcs) kk
theorem a_callSN {host : String} (X : aX p m c cc nL s args aTs own meth ret) (hw : aW D dA ad adV σ A s H locs) (hM : aM l y bytes maxL rt rm as σ v σ') (hcal : aCalS y bytes maxL rt n) (hlk : Cond.methodLinkNest own index y host ∈ aNest) (hrm : (rm.cells = 0 ∧ rm.slots = 0) ∧ rm.frames + 1 ≤ R.frames ∧ 8 + (maxL + 11) + rm.locals ≤ R.locals) (hn : (as ad).length = n) (hl : lv_has ls nL lv) (hst : st0 = (as ad).reverse ++ rest) (hcat : (rest.map fun v => v.category).sum ≤ 8) (hdg : decode cc pc = .ok (.invokestatic index, 3)) (hcs : cells + 0 ≤ R.cells ∧ slots + 0 ≤ R.slots)
    (kk : ∀ (H1 : Heap) (locs1 : List Loc), aW D dA ad adV σ' A s H1 locs1 → W p l e R s m args below meth c H1 locs1 cells slots Q (F0 m (pc + 3) ls (v.toList ++ rest))) : W p l e R s m args below meth c H locs cells slots Q (F0 m pc ls st0) :=
  a_back hw (va_runSN (g := F0 m pc ls st0) (As := as ad) (rest := rest) X.1 (hM D dA ad adV H.size) ⟨va_cnB n X.1.2.2.2.2 hcal.goodW rfl hrm.1.1 hrm.1.2 (hw.2.2.2.2.2.1.1 _ hlk) (X.1.2.2.2.2 _ hcal.2.1) hcal.2.2.2 hrm.2, X.1.2.2.2.2 _ hcal.1, trivial⟩ ⟨aPre.blind, hw.pre⟩ rfl hn hl.1 hst (lv_room hcat) hdg hcs) kk
/-- System.arraycopy of whole numbers -/
theorem a_copy {n0 n1 o1 : Nat} {sp dp k : Int32} (X : aX p m c cc nL s args Ts own meth ret) (hw : aW D dA ad adV σ A s H locs) (hlink : Cond.methodLink own index arraycopyName ∈ Ts) (hnat : Cond.native arraycopyName ∈ Ts) (hstat : Cond.static arraycopyName ∈ Ts) (hini : Cond.initialized "java/lang/System" ∈ Ts) (hk0 : (aK σ)[o]? = some (9, n0)) (hk1 : (aK σ)[o1]? = some (9, n1)) (h1 : ¬ sp < 0) (h2 : ¬ dp < 0) (h3 : ¬ k < 0) (h4 : sp.toNatClampNeg + k.toNatClampNeg ≤ n0) (h5 : dp.toNatClampNeg + k.toNatClampNeg ≤ n1) (hl : lv_has ls nL lv) (hframes : 1 ≤ R.frames) (hlocals : (rest.map fun v => v.category).sum + (nativeFrameWords "java/lang/System" "arraycopy" 5 + 11) ≤ R.locals) (hdg : decode cc pc = .ok (.invokestatic index, 3))
    (kk : ∀ (H1 : Heap) (locs1 : List Loc), aW D dA ad adV (aRI σ o1 (va_cpy (aI σ o) (aI σ o1) sp.toNatClampNeg dp.toNatClampNeg k.toNatClampNeg)) A s H1 locs1 → W p l e R s m args below meth c H1 locs1 cells slots Q (F0 m (pc + 3) ls rest)) : W p l e R s m args below meth c H locs cells slots Q (F0 m pc ls (.int k :: .int dp :: .ref (ad o1) :: .int sp :: .ref (ad o) :: rest)) := by
  obtain ⟨⟨hx, hb, hml, hown, hts⟩, -, -⟩ := X
  obtain ⟨hK, hP, hD, hS, hA, hE⟩ := hw
  refine va_copyi hx hb (hml.trans hl.1.symm) hown (hts _ hlink) (hts _ hnat) (hts _ hstat) (hts _ hini) hK hP hD hS o o1 1 1 ((aWs_get hk0).trans (by rw [aCq_i (by decide) (by decide)])) ((aWs_get hk1).trans (by rw [aCq_i (by decide) (by decide)])) (ty := .int) rfl rfl rfl h1 h2 h3 h4 h5 (fun _ _ => rfl) hframes hlocals hdg (fun H1 locs1 hP1 hD1 hS1 => ?_)
  rw [aWs_RI hk1 (by decide) (by decide)] at hP1 hD1
  exact kk H1 locs1 ⟨hK, hP1, hD1, hS1, hA, hE⟩
end AR
