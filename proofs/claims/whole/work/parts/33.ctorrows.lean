/-! CONSTRUCTORS: contracts that make cells -/
theorem wA_8 : Cond.arrayClass .byte ∈ aTs := aTs_1 100 (by decide +kernel) (by decide +kernel)
theorem wA_9 : Cond.arrayClass .int ∈ aTs := aTs_1 101 (by decide +kernel) (by decide +kernel)
theorem wA_10 : Cond.arrayClass .long ∈ aTs := aTs_1 126 (by decide +kernel) (by decide +kernel)
theorem wC_objectInit : Cond.code Lib.objectInit ⟨#[0xb1]⟩ 1 none ∈ aTs := aTs_1 28 (by decide +kernel) (by decide +kernel)
/-- where a cell's one reference lies -/
def aPar (n : Nat) : Nat × Nat := ((List.range 126).findSome? (fun x => (List.range 20).findSome? (fun y => if aP1 x y = some n then some (x, y) else none))).getD (999, 0)
theorem aP1_lt {x y n : Nat} (h : aP1 x y = some n) : x < 126 ∧ y < 20 ∧ n < 126 := by
  have key : ∀ x, x < 126 → ∀ y, y < 20 → ∀ n, aP1 x y = some n → n < 126 := by
    have h9 : ∀ x, x < 126 → ∀ y, y < 20 → (aP1 x y).all (fun n => decide (n < 126)) = true := by decide +kernel
    intro x hx y hy n hn
    have := h9 x hx y hy
    rw [hn] at this
    simpa using this
  have hx : x < 126 := by
    refine Nat.not_le.mp fun hx => ?_
    unfold aP1 at h
    rw [if_neg (by omega), if_neg (by omega)] at h
    unfold aP0 at h
    have : aPt.length ≤ 126 := by decide +kernel
    rw [List.getD_eq_getElem?_getD, List.getD_eq_getElem?_getD, List.getElem?_eq_none (l := aPt) (by omega)] at h
    simp at h
  have hy : y < 20 := by
    refine Nat.not_le.mp fun hy => ?_
    unfold aP1 at h
    rw [if_neg (by omega), if_neg (by omega)] at h
    unfold aP0 at h
    have h9 : ∀ r ∈ aPt, r.length ≤ 20 := by decide +kernel
    have h8 : (aPt.getD x []).length ≤ 20 := by
      rw [List.getD_eq_getElem?_getD]
      cases hq : aPt[x]? with
      | none => simp
      | some r => exact h9 r (List.mem_of_getElem? hq)
    rw [List.getD_eq_getElem?_getD, List.getElem?_eq_none (by omega)] at h
    simp at h
  exact ⟨hx, hy, key x hx y hy n h⟩
theorem aPar_ok {x y n : Nat} (h : aP1 x y = some n) : aPar n = (x, y) := by
  have key : ∀ x, x < 126 → ∀ y, y < 20 → (aP1 x y).all (fun n => decide (aPar n = (x, y))) = true := by decide +kernel
  obtain ⟨hx, hy, -⟩ := aP1_lt h
  have := key x hx y hy
  rw [h] at this
  simpa using this
theorem nOk.of {n : Nat} {N U : List (Nat × Nat)} (hp : (U.contains (aPar n) || aPar n == (999, 0)) = true) (hN : (N.all fun q => q.1 == n) = true) : nOk n U (N ++ U) := by
  refine ⟨fun x y hx => ?_, fun x y hx hu h => ?_⟩
  · have h1 : N.contains (x, y) = false := by
      rw [Bool.eq_false_iff]
      intro h
      have := List.all_eq_true.mp hN (x, y) (by simpa using h)
      have : x = n := by simpa using this
      omega
    have e : (N ++ U).contains (x, y) = (N.contains (x, y) || U.contains (x, y)) := by
      rw [Bool.eq_iff_iff]
      simp [List.contains_iff_mem]
    rw [e, h1, Bool.false_or]
  · rw [aPar_ok h, hu] at hp
    have hx2 := (aP1_lt h).1
    have : (x, y) = (999, 0) := by simpa using hp
    have : x = 999 := congrArg Prod.fst this
    omega
def uDel (U : List (Nat × Nat)) (o k : Nat) : List (Nat × Nat) := U.filter fun q => !(q == (o, k))
theorem uDel_1 {U : List (Nat × Nat)} {o k : Nat} : (uDel U o k).contains (o, k) = false := by
  rw [Bool.eq_false_iff]
  intro h
  have h2 : (o, k) ∈ uDel U o k := by simpa using h
  simp [uDel] at h2
theorem uDel_2 {U : List (Nat × Nat)} {o k : Nat} : ∀ x y, ¬ (x = o ∧ y = k) → (uDel U o k).contains (x, y) = U.contains (x, y) := by
  intro x y h
  rw [Bool.eq_iff_iff]
  simp only [List.contains_iff_mem, uDel, List.mem_filter, Bool.not_eq_true', beq_eq_false_iff_ne, ne_eq, Prod.mk.injEq]
  exact ⟨fun q => q.1, fun q => ⟨q, h⟩⟩
/-- a lineup that stands -/
def aLinS (n : Nat) (U : List (Nat × Nat)) (o : Nat) : Prop := aLin o = true ∧ o + 8 < n ∧ ∀ k, U.contains (o, k) = false
theorem aLinS_k {n : Nat} {U : List (Nat × Nat)} {o : Nat} (h : aLinS n U o) : (aKd.take n)[o]? = some (2, 0) ∧ (aKd.take n)[o + 1]? = some (9, 80) ∧ (aKd.take n)[o + 2]? = some (9, 5) ∧ (aKd.take n)[o + 3]? = some (9, 5) ∧ (aKd.take n)[o + 4]? = some (9, 4) ∧ (aKd.take n)[o + 5]? = some (9, 8) ∧ (aKd.take n)[o + 6]? = some (9, 16) ∧ (aKd.take n)[o + 7]? = some (9, 16) ∧ (aKd.take n)[o + 8]? = some (9, 16) := by
  have h2 := h.2.1
  obtain ⟨h1, h3, h4, h5, h6, h7, h8, h9, h10⟩ := aLin_k h.1
  refine ⟨?_, ?_, ?_, ?_, ?_, ?_, ?_, ?_, ?_⟩ <;> rw [List.getElem?_take, if_pos (by omega)] <;> assumption
theorem aLinS_p {n : Nat} {U : List (Nat × Nat)} {o : Nat} (h : aLinS n U o) (ι : iS) (j : Nat) (hj : j < 8) : aP (aGs n U ι) o (3 + j) = some (o + 1 + j) := by
  have h2 := h.2.1
  refine aGs_P ?_ ?_
  · rw [h.2.2, decide_eq_true (by omega)]
    rfl
  · have h := h.1
    simp only [aLin, Bool.and_eq_true, decide_eq_true_eq, List.all_eq_true, List.mem_range] at h
    have h1 : o ≠ 29 := h.2.2.2.2.2.2.2.2.2.2.1
    have h2 : o ≠ 24 := h.2.2.2.2.2.2.2.2.2.2.2
    unfold aP1
    rw [if_neg (by omega), if_neg (by omega)]
    exact h.2.2.2.2.2.2.2.2.2.1 j hj
theorem aGs_RI (n : Nat) (U : List (Nat × Nat)) (ι : iS) (o : Nat) (f : Nat → Int32) : aRI (aGs n U ι) o f = aGs n U (rI ι o f) := rfl
theorem va_AOA.moved {u U : State} (hvm : u.vm.Alike U.vm) (h : va_AOA .int u) : va_AOA .int U := over_moved hvm h
/-- arrays of references may be made -/
def aY (U : State) : Prop := va_AO "LineupDesk$Lineup" U ∧ va_AOA .int U
theorem aY.moved {u U : State} (hvm : u.vm.Alike U.vm) (h : aY u) : aY U := ⟨va_AO.moved hvm h.1, va_AOA.moved hvm h.2⟩
def aPreN (D : va_G) (dA : Nat → ClassId) (ad adV : Nat → Nat) (σ : aS) (sz : Nat) (as : List Value) : Array Value → State → Prop := fun a U => aPre D dA ad adV σ sz as a U ∧ aY U
def aQN (D : va_G) (dA : Nat → ClassId) (ad : Nat → Nat) (n : Nat) (σ' : aS) (A : Nat → Prop) : Array Value → State → Outcome → State → Prop := fun _ st oc t => oc = .returned none ∧ (∃ ad' : Nat → Nat, (∀ x, x < n ∨ 1000000 ≤ x → ad' x = ad x) ∧ aB D dA ad' σ' A t) ∧ va_F A st t
/-- A CONSTRUCTOR'S CONTRACT: from σ of n cells it comes to σ'; mc cells, ms places come -/
def aMn (l : Launch) (y : MethodName) (b : ByteArray) (nL : Nat) (rm : Room) (as : (Nat → Nat) → List Value) (n : Nat) (σ σ' : aS) (mc ms : Nat) : Prop :=
  ∀ (D : va_G) (dA : Nat → ClassId) (ad adV : Nat → Nat) (sz : Nat), Met l y (Cond.code y b nL none :: aTs) rm (aPreN D dA ad adV σ sz (as ad)) (aQN D dA ad n σ' (va_A (aWs ad dA σ) sz)) mc ms (va_A (aWs ad dA σ) sz)
theorem aPreN.blind {D : va_G} {dA : Nat → ClassId} {ad adV : Nat → Nat} {σ : aS} {sz : Nat} {as : List Value} : FrameBlind (aPreN D dA ad adV σ sz as) := by
  intro a U g mk q
  exact ⟨aPre.blind a U g mk q.1, aY.moved (u := U) (U := U.calling g mk a) (Vm.Alike.refl U.vm) q.2⟩
theorem aMn.of {l : Launch} {y : MethodName} {rm : Room} {as : (Nat → Nat) → List Value} {n mc ms : Nat} {σ σ' : aS} {cc : ByteArray} {maxL : Nat} (hy : plainName y.cls = true) (hyn : y.name = "<init>") (hn : ∀ ad, (lg_sl (as ad)).length ≤ maxL)
    (body : ∀ (p : Program) (e : Env) (s : State) (m : MethodId) (args : Array Value) (below : List Frame) (meth : Method) (c : Code) (D : va_G) (dA : Nat → ClassId) (ad adV : Nat → Nat) (A : Nat → Prop) (ls : Array Slot), aX p m c cc maxL s args aTs y.cls meth none → meth.name = "<init>" → aY s → aW D dA ad adV σ A s s.heap [] → lv_has ls maxL (lv_args 0 (as ad)) →
      W p l e rm s m args below meth c s.heap [] 0 0 (MQ below (aQN D dA ad n σ' A) args s mc ms A) (F0 m 0 ls [])) : aMn l y cc maxL rm as n σ σ' mc ms := by
  intro D dA ad adV sz
  refine Met.ofW (cc := cc) (maxL := maxL) (ret := none) hy rfl ?_
  intro p e s m args below meth c s₁ B hml hv
  obtain ⟨⟨rfl, hsz, hP, hK, hD0, hE⟩, hY⟩ := hv
  have hts := atoms_spec (ws := Cond.code y cc maxL none :: aTs) B.pre
  have hown : s.vm.findClass y.cls = some m.cls := findClass_of_methodNamed B.named
  have hin : meth.name = "<init>" := (name_of_methodNamed B.named B.method).1.trans hyn
  subst hsz
  have hD := hD0.self (sz := s.heap.size)
  have hl := lv_entry (as ad) (n := maxL) (hn ad)
  rw [lg_entry_eq]
  exact body p e s m _ below meth c D dA ad adV _ _ ⟨⟨B.exec, B.bytes, hml, hown, fun w h => hts w (List.mem_cons_of_mem _ h)⟩, B.returns, B.notSynchronized⟩ hin hY ⟨hK, hP, hD, va_S.rf, fun q h => Or.inr h, hE⟩ hl
section NC
variable {p : Program} {l : Launch} {e : Env} {R : Room} {s : State} {m : MethodId} {args : Array Value} {below : List Frame} {meth : Method} {c : Code} {H : Heap} {locs : List Loc} {cells slots : Nat} {Q : State → Prop}
variable {cc : ByteArray} {pc nL : Nat} {ls : Array Slot} {rest : List Value} {own : String} {ret : Option FieldType} {D : va_G} {dA : Nat → ClassId} {ad adV : Nat → Nat} {n : Nat} {U U' : List (Nat × Nat)} {ι : iS} {A : Nat → Prop} {σ σ' : aS}
theorem n_ret {ad1 : Nat → Nat} (C : aX p m c cc nL s args aTs own meth none) (hE0 : ∀ x, x < n ∨ 1000000 ≤ x → ad1 x = ad x) (hw : aW D dA ad1 adV σ A s H locs) (hdg : decode cc pc = .ok (.return_, 1)) : W p l e R s m args below meth c H locs cells slots (MQ below (aQN D dA ad n σ A) args s cells slots A) (F0 m pc ls []) := by
  obtain ⟨⟨hx, hb, -, -, -⟩, hr, hlocks⟩ := C
  obtain ⟨hK, hP, hD, hS, -, -⟩ := hw
  exact W.vret hx hb hr (fun t ht hW => ⟨rfl, ⟨ad1, hE0, by rw [ht]; exact hP, va_K.moved hW.alike hK, hD⟩, hS.F ht⟩) hS.2.2 hdg
theorem n_obj {idx : Nat} {lv : List (Nat × Value)} {a : Nat} (X : aX p m c cc nL s args aTs own meth ret) (hlink : Cond.methodLink own idx Lib.objectInit ∈ aTs) (hl : lv_has ls nL lv) (hdg : decode cc pc = .ok (.invokespecial idx, 3)) (hframes : 1 ≤ R.frames) (hlocals : 12 ≤ R.locals)
    (kk : W p l e R s m args below meth c H locs cells slots Q (F0 m (pc + 3) ls [])) : W p l e R s m args below meth c H locs cells slots Q (F0 m pc ls [.ref a]) := by
  obtain ⟨⟨hx, hb, hml, hown, hts⟩, -, -⟩ := X
  exact W.objInit (g := F0 m pc ls [.ref a]) hx hb hown (hts _ hlink) (hts _ wI_objectInit) (hts _ wC_objectInit) rfl (hl.1.trans hml.symm) rfl hdg hframes hlocals kk
/-- behind a constructor's call -/
theorem n_back {mc ms : Nat} {st0 : List Value} {a : Array Value} (hw : aW D dA ad adV σ A s H locs) (hr : va_Run p l e R s m args below meth c H locs cells slots mc ms (F0 m pc ls st0) rest (aQN D dA ad n σ' (va_A (aWs ad dA σ) H.size) a) (va_A (aWs ad dA σ) H.size))
    (kk : ∀ (ad1 : Nat → Nat) (H1 : Heap) (locs1 : List Loc), (∀ x, x < n ∨ 1000000 ≤ x → ad1 x = ad x) → aW D dA ad1 adV σ' A s H1 locs1 → W p l e R s m args below meth c H1 locs1 (cells + mc) (slots + ms) Q (F0 m (pc + 3) ls rest)) : W p l e R s m args below meth c H locs cells slots Q (F0 m pc ls st0) := by
  obtain ⟨hK, hP, hD, hS, hA, hE⟩ := hw
  have hF : ∀ q, va_A (aWs ad dA σ) H.size q → A q := fun q h => by
    rcases h with ⟨k, e9, h⟩ | h
    · exact hD.2 k _ h
    · exact hA q (Nat.le_trans hS.1 h)
  intro T hT X
  obtain ⟨v', st₀, t, T', L, h0, X', hL, e1, e2, ⟨hv, ⟨ad1, hE1, bP, bK, bD⟩, hz, hk⟩, st⟩ := hr T hT X
  cases hv
  rw [h0] at hz hk
  obtain ⟨t2, a1, b1⟩ := kk ad1 T'.heap (locs ++ L) hE1 ⟨hK, by rw [e1]; exact bP, bD.weaken (fun k q _ h => hF q.1 h), ⟨Nat.le_trans hS.1 (by rw [e1]; exact hz), fun q h1 h2 => by rw [e1, hk q (Nat.lt_of_lt_of_le h1 hS.1) (fun z => h2 (hF q z))]; exact hS.2.1 q h1 h2, fun q hq => by
      rcases List.mem_append.mp hq with h | h
      · exact hS.2.2 q h
      · exact hF _ (hL q h)⟩, hA, hE.ext (fun x hx => hE1 x (Or.inr hx))⟩ T' rfl X'
  exact ⟨t2, st t2 a1, b1⟩
theorem aW.preN {as : (Nat → Nat) → List Value} (hw : aW D dA ad adV σ A s H locs) (hY : aY s) : ∀ U : State, U.heap = H → s.WarmedH U.vm → aPreN D dA ad adV σ H.size (as ad) (as ad).toArray U := fun U hU hW => ⟨hw.pre U hU hW, hY.moved hW.alike⟩
variable {y : MethodName} {bytes : ByteArray} {maxL index o mc ms : Nat} {rm : Room} {as : (Nat → Nat) → List Value} {lv : List (Nat × Value)}
/-- what the call of a constructor asks of its name -/
def aCalI (y : MethodName) (b : ByteArray) (nL : Nat) : Prop := Cond.instanceMethod y ∈ aTs ∧ Cond.initialized y.cls ∈ aTs ∧ Cond.code y b nL none ∈ aTs ∧ y.name = "<init>" ∧ (y.cls ≠ "java/lang/invoke/MethodHandle" ∧ y.cls ≠ "java/lang/invoke/VarHandle" ∧ (parseMethodDescriptor y.desc).map (fun d => d.parameters.length) = some 0)
theorem aCalI.good (h : aCalI y bytes maxL) : GoodIn aTs (Cond.code y bytes maxL none :: aTs) := by
  intro w hw
  rcases List.mem_cons.mp hw with rfl | hw
  · exact aTs_good _ h.2.2.1
  · exact aTs_good _ hw
theorem n_callI (X : aX p m c cc nL s args aTs own meth ret) (hY : aY s) (hw : aW D dA ad adV σ A s H locs) (hM : aMn l y bytes maxL rm (fun ad => [.ref (ad o)]) n σ σ' mc ms) (hcal : aCalI y bytes maxL) (hlk : Cond.methodLink own index y ∈ aTs) (hrm : (rm.cells = mc ∧ rm.slots = ms) ∧ rm.frames + 1 ≤ R.frames ∧ 8 + (maxL + 11) + rm.locals ≤ R.locals) (hl : lv_has ls nL lv) (hcat : (rest.map fun v => v.category).sum ≤ 8) (hdg : decode cc pc = .ok (.invokespecial index, 3)) (hcs : cells + mc ≤ R.cells ∧ slots + ms ≤ R.slots)
    (kk : ∀ (ad1 : Nat → Nat) (H1 : Heap) (locs1 : List Loc), (∀ x, x < n ∨ 1000000 ≤ x → ad1 x = ad x) → aW D dA ad1 adV σ' A s H1 locs1 → W p l e R s m args below meth c H1 locs1 (cells + mc) (slots + ms) Q (F0 m (pc + 3) ls rest)) : W p l e R s m args below meth c H locs cells slots Q (F0 m pc ls (.ref (ad o) :: rest)) :=
  n_back hw (va_runI (g := F0 m pc ls (.ref (ad o) :: rest)) (b := ad o) (As := []) (rest := rest) X.1 (hM D dA ad adV H.size) (cwI 0 X.1.2.2.2.2 hcal.good rfl hrm.1.1 hrm.1.2 (X.1.2.2.2.2 _ hcal.2.1) (X.1.2.2.2.2 _ hlk) (X.1.2.2.2.2 _ hcal.1) hcal.2.2.2.1 hcal.2.2.2.2 hrm.2) ⟨aPreN.blind, hw.preN (as := fun ad => [.ref (ad o)]) hY⟩ rfl rfl hl.1 rfl (lv_room hcat) hdg hcs) kk
theorem n_callIN {host : String} (X : aX p m c cc nL s args aTs own meth ret) (hY : aY s) (hw : aW D dA ad adV σ A s H locs) (hM : aMn l y bytes maxL rm (fun ad => [.ref (ad o)]) n σ σ' mc ms) (hcal : aCalI y bytes maxL) (hlk : Cond.methodLinkNest own index y host ∈ aNest) (hrm : (rm.cells = mc ∧ rm.slots = ms) ∧ rm.frames + 1 ≤ R.frames ∧ 8 + (maxL + 11) + rm.locals ≤ R.locals) (hl : lv_has ls nL lv) (hcat : (rest.map fun v => v.category).sum ≤ 8) (hdg : decode cc pc = .ok (.invokespecial index, 3)) (hcs : cells + mc ≤ R.cells ∧ slots + ms ≤ R.slots)
    (kk : ∀ (ad1 : Nat → Nat) (H1 : Heap) (locs1 : List Loc), (∀ x, x < n ∨ 1000000 ≤ x → ad1 x = ad x) → aW D dA ad1 adV σ' A s H1 locs1 → W p l e R s m args below meth c H1 locs1 (cells + mc) (slots + ms) Q (F0 m (pc + 3) ls rest)) : W p l e R s m args below meth c H locs cells slots Q (F0 m pc ls (.ref (ad o) :: rest)) :=
  n_back hw (va_runIN (g := F0 m pc ls (.ref (ad o) :: rest)) (b := ad o) (As := []) (rest := rest) X.1 (hM D dA ad adV H.size) ⟨va_cnB 0 X.1.2.2.2.2 hcal.good rfl hrm.1.1 hrm.1.2 (hw.2.2.2.2.2.1.1 _ hlk) (X.1.2.2.2.2 _ hcal.2.1) hcal.2.2.2.2 hrm.2, hcal.2.2.2.1, X.1.2.2.2.2 _ hcal.1⟩ ⟨aPreN.blind, hw.preN (as := fun ad => [.ref (ad o)]) hY⟩ rfl rfl hl.1 rfl (lv_room hcat) hdg hcs) kk
end NC
