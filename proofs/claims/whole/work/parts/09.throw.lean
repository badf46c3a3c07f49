/-! CONTRACTS OF WHAT RETURNS OR THROWS: the outcome o is known beforehand: .inl (exception, heap behind), .inr (answer, heap behind); a throw makes one cell of six slots. -/
abbrev aO : Type := (String × aS) ⊕ (Option Value × aS)
def oc9 (o : aO) : Nat := match o with
  | .inl _ => 1
  | .inr _ => 0
def os9 (o : aO) : Nat := match o with
  | .inl _ => 6
  | .inr _ => 0
def aQx (D : va_G) (dA : Nat → ClassId) (ad : Nat → Nat) (o : aO) (A : Nat → Prop) : Array Value → State → Outcome → State → Prop := fun a st oc t => match o with
  | .inl _ => False
  | .inr q => aQ D dA ad q.2 A q.1 a st oc t
def aXx (D : va_G) (dA : Nat → ClassId) (ad : Nat → Nat) (o : aO) (A : Nat → Prop) : String → State → State → Prop := fun E st t => match o with
  | .inl q => E = q.1 ∧ aB D dA ad q.2 A t ∧ va_F A st t
  | .inr _ => False
def aRx (f w : Nat) (o : aO) : Room := { frames := f, cells := oc9 o, slots := os9 o, locals := w }
def aMx (l : Launch) (y : MethodName) (b : ByteArray) (nL : Nat) (rt : Option FieldType) (f w : Nat) (as : (Nat → Nat) → List Value) (σ : aS) (o : aO) : Prop :=
  ∀ (D : va_G) (dA : Nat → ClassId) (ad adV : Nat → Nat) (sz : Nat), vx_Met l y (Cond.code y b nL rt :: aTs) (aRx f w o) (aPre D dA ad adV σ sz (as ad)) (aQx D dA ad o (va_A (aWs ad dA σ) sz)) (aXx D dA ad o (va_A (aWs ad dA σ) sz)) (oc9 o) (os9 o) (va_A (aWs ad dA σ) sz)
theorem aMx.of {l : Launch} {y : MethodName} {f w : Nat} {as : (Nat → Nat) → List Value} {σ : aS} {o : aO} {cc : ByteArray} {maxL : Nat} {ret : Option FieldType} (hy : plainName y.cls = true) (hn : ∀ ad, (lg_sl (as ad)).length ≤ maxL)
    (body : ∀ (p : Program) (e : Env) (s : State) (m : MethodId) (args : Array Value) (below : List Frame) (meth : Method) (c : Code) (D : va_G) (dA : Nat → ClassId) (ad adV : Nat → Nat) (A : Nat → Prop) (ls : Array Slot), aX p m c cc maxL s args aTs y.cls meth ret → aW D dA ad adV σ A s s.heap [] → lv_has ls maxL (lv_args 0 (as ad)) → (∀ x ∈ c.exceptionTable.toList, False) →
      W p l e (aRx f w o) s m args below meth c s.heap [] 0 0 (vx_MQ below (aQx D dA ad o A) (aXx D dA ad o A) args s (oc9 o) (os9 o) A) (F0 m 0 ls [])) : aMx l y cc maxL ret f w as σ o := by
  intro D dA ad adV sz
  refine vx_ofW (cc := cc) (maxL := maxL) (ret := ret) hy rfl ?_
  intro p e s m args below meth c s₁ B hml ht hv
  obtain ⟨rfl, hsz, hP, hK, hD0, hE⟩ := hv
  have hts := atoms_spec (ws := Cond.code y cc maxL ret :: aTs) B.pre
  have hown : s.vm.findClass y.cls = some m.cls := findClass_of_methodNamed B.named
  subst hsz
  have hD := hD0.self (sz := s.heap.size)
  have hl := lv_entry (as ad) (n := maxL) (hn ad)
  rw [lg_entry_eq]
  exact body p e s m _ below meth c D dA ad adV _ _ ⟨⟨B.exec, B.bytes, hml, hown, fun w h => hts w (List.mem_cons_of_mem _ h)⟩, B.returns, B.notSynchronized⟩ ⟨hK, hP, hD, va_S.rf, fun q h => Or.inr h, hE⟩ hl ht
section AT
variable {p : Program} {l : Launch} {e : Env} {R : Room} {s : State} {m : MethodId} {args : Array Value} {below : List Frame} {meth : Method} {c : Code} {H : Heap} {locs : List Loc} {cells slots : Nat} {Q : State → Prop}
variable {cc : ByteArray} {pc nL : Nat} {ls : Array Slot} {rest : List Value} {own : String} {ret : Option FieldType} {D : va_G} {dA : Nat → ClassId} {ad adV : Nat → Nat} {σ : aS} {A : Nat → Prop}
theorem x_iret {v : Int32} (C : aX p m c cc nL s args aTs own meth (some .int)) (hw : aW D dA ad adV σ A s H locs) (hdg : decode cc pc = .ok (.ireturn, 1)) : W p l e R s m args below meth c H locs 0 0 (vx_MQ below (aQx D dA ad (.inr (some (.int v), σ)) A) (aXx D dA ad (.inr (some (.int v), σ)) A) args s 0 0 A) (F0 m pc ls [.int v]) := vx_ret (a_iret C hw hdg)
theorem x_lret {v : Int64} (C : aX p m c cc nL s args aTs own meth (some .long)) (hw : aW D dA ad adV σ A s H locs) (hdg : decode cc pc = .ok (.lreturn, 1)) : W p l e R s m args below meth c H locs 0 0 (vx_MQ below (aQx D dA ad (.inr (some (.long v), σ)) A) (aXx D dA ad (.inr (some (.long v), σ)) A) args s 0 0 A) (F0 m pc ls [.long v]) := vx_ret (a_lret C hw hdg)
theorem x_vret (C : aX p m c cc nL s args aTs own meth none) (hw : aW D dA ad adV σ A s H locs) (hdg : decode cc pc = .ok (.return_, 1)) : W p l e R s m args below meth c H locs 0 0 (vx_MQ below (aQx D dA ad (.inr (none, σ)) A) (aXx D dA ad (.inr (none, σ)) A) args s 0 0 A) (F0 m pc ls []) := vx_ret (a_vret C hw hdg)
/-- throw new E(text) -/
theorem x_throw {cls text : String} {ik is ic q : Nat} {f w : Nat} (hst : l.stackTraces = false) (C : aX p m c cc nL s args aTs own meth ret) (hw : aW D dA ad adV σ A s H locs) (hlv : ls.size = nL) (hout : ∀ x ∈ c.exceptionTable.toList, False)
    (hcls : Bundle.fit cls = true) (hk : Cond.classLink own ik cls ∈ aTs) (hini : Cond.initialized cls ∈ aTs) (hstr : (own, is, text, q) ∈ aLdc) (hg : ∀ x ∈ (vx_atS own ic cls ["java/lang/RuntimeException", "java/lang/Exception"]).filter goodWord, x ∈ aTs) (hng : (vx_atS own ic cls ["java/lang/RuntimeException", "java/lang/Exception"]).filter (fun x => !goodWord x) = [.declares (Bundle.initS "java/lang/RuntimeException"), .declares (Bundle.initS "java/lang/Exception"), .declares (Bundle.initS "java/lang/Throwable"), .castable cls cls]) (hcx : cls ∈ aXs) (hot : (vx_atS own ic cls ["java/lang/RuntimeException", "java/lang/Exception"]).all vx_ot = true)
    (hf : 5 < f) (hwl : (rest.map fun v => v.category).sum + 82 ≤ w)
    (d0 : decode cc pc = .ok (.new ik, 3)) (d3 : decode cc (pc + 3) = .ok (.dup, 1)) (d4 : decode cc (pc + 4) = .ok (.ldc is, 2)) (d6 : decode cc (pc + 6) = .ok (.invokespecial ic, 3)) (d9 : decode cc (pc + 9) = .ok (.athrow, 1)) :
    W p l e (aRx f w (.inl (cls, σ))) s m args below meth c H locs 0 0 (vx_MQ below (aQx D dA ad (.inl (cls, σ)) A) (aXx D dA ad (.inl (cls, σ)) A) args s 1 6 A) (F0 m pc ls rest) := by
  obtain ⟨⟨hx, hb, hml, hown, hts⟩, hr, hlocks⟩ := C
  obtain ⟨hK, hP, hD, hS, hA, hE⟩ := hw
  have hat : ∀ x ∈ vx_atS own ic cls ["java/lang/RuntimeException", "java/lang/Exception"], x.before args s = true := by
    refine vx_hat (B := [.declares (Bundle.initS "java/lang/RuntimeException"), .declares (Bundle.initS "java/lang/Exception"), .declares (Bundle.initS "java/lang/Throwable"), .castable cls cls]) (fun x hx9 => hts x (hg x hx9)) (fun x hx9 => by rw [hng] at hx9; exact hx9) ?_
    obtain ⟨-, -, -, -, -, -, h9, h10, -⟩ := hE
    exact vx_c (va_Nw.use rfl (h9 _ (by simp [aDc]))) (vx_c (va_Nw.use rfl (h9 _ (by simp [aDc]))) (vx_c (va_Nw.use rfl (h9 _ (by simp [aDc]))) (vx_c (va_Nw.use rfl (h10 _ hcx)) vx_n)))
  refine vx_throwS (names := ["java/lang/RuntimeException", "java/lang/Exception"]) hx hb hst hown hcls (by decide +kernel) (hts _ hk) (hts _ hini) (hE.2.2.2.1 _ hstr) hat ?_ hE.2.2.2.2.1.1 hE.2.2.2.2.1.2 hS (hlv.trans hml.symm) d0 d3 d4 d6 d9 (fun x hx9 => absurd (hout x hx9) id) (by show 5 < f; exact hf) (by show _ ≤ w; exact hwl) (Nat.le_refl _) (Nat.le_refl _) hlocks ?_ hS.2.2 (Nat.le_refl _) (Nat.le_refl _)
  · intro x hx9
    rcases List.mem_cons.mp hx9 with rfl | hx9
    · rfl
    · rcases List.mem_cons.mp hx9 with rfl | hx9
      · rfl
      · exact List.all_eq_true.mp hot x hx9
  · intro t hal hz hk9
    refine ⟨rfl, ⟨hP.kept (fun k q9 hq9 => hk9 q9.1 ((hP k q9 hq9).lt)), va_K.moved hal hK, hD⟩, Nat.le_trans hS.1 hz, fun q9 h1 h2 => ?_⟩
    rw [hk9 q9 (Nat.lt_of_lt_of_le h1 hS.1)]
    exact hS.2.1 q9 h1 h2
variable {y : MethodName} {bytes : ByteArray} {maxL index n ci nn ob : Nat} {rt : Option FieldType} {f w : Nat} {σ' : aS} {v : Option Value} {As : (Nat → Nat) → List Value} {as : (Nat → Nat) → List Value} {st0 : List Value} {lv : List (Nat × Value)}
theorem x_backN {a : Array Value} (hw : aW D dA ad adV σ A s H locs) (hr : vx_Run p l e R s m args below meth c H locs cells slots 0 0 (F0 m pc ls st0) rest (aQx D dA ad (.inr (v, σ')) (va_A (aWs ad dA σ) H.size) a) (aXx D dA ad (.inr (v, σ')) (va_A (aWs ad dA σ) H.size)) (va_A (aWs ad dA σ) H.size))
    (kk : ∀ (H1 : Heap) (locs1 : List Loc), aW D dA ad adV σ' A s H1 locs1 → W p l e R s m args below meth c H1 locs1 cells slots Q (F0 m (pc + 3) ls (v.toList ++ rest))) : W p l e R s m args below meth c H locs cells slots Q (F0 m pc ls st0) := by
  refine a_back hw (fun T hT X => ?_) kk (a := a)
  rcases hr T hT X with h | ⟨q, st₀, t, T', L, E, ce, h0, X', hL, e1, e2, hx, -⟩
  · exact h
  · exact absurd hx id
theorem x_callN {q : vw_C} (X : aX p m c cc nL s args aTs own meth ret) (hw : aW D dA ad adV σ A s H locs) (hM : aMx l y bytes maxL rt f w as σ (.inr (v, σ'))) (hcal : aCal q.1 y bytes maxL rt n) (hlk : Cond.methodLink own index y ∈ aTs) (hrm : f + 1 ≤ R.frames ∧ 8 + (maxL + 11) + w ≤ R.locals) (hk : (aK σ)[ob]? = some (ci, nn)) (hci : ci < 8) (hc : vwCl[ci]? = some q) (has : as ad = .ref (ad ob) :: As ad) (hn : (As ad).length = n) (hl : lv_has ls nL lv) (hst : st0 = (As ad).reverse ++ .ref (ad ob) :: rest) (hcat : (rest.map fun v => v.category).sum ≤ 8) (hdg : decode cc pc = .ok (.invokevirtual index, 3)) (hcs : cells + 0 ≤ R.cells ∧ slots + 0 ≤ R.slots)
    (kk : ∀ (H1 : Heap) (locs1 : List Loc), aW D dA ad adV σ' A s H1 locs1 → W p l e R s m args below meth c H1 locs1 cells slots Q (F0 m (pc + 3) ls (v.toList ++ rest))) : W p l e R s m args below meth c H locs cells slots Q (F0 m pc ls st0) := by
  have hpre := hw.pre (as := as)
  have hMM := hM D dA ad adV H.size
  rw [has] at hpre hMM
  have cw : CallW R s args own q.1 index y bytes maxL rt (Cond.code y bytes maxL rt :: aTs) (aRx f w (.inr (v, σ'))) 0 0 n := cwV n X.1.2.2.2.2 (hcal.good hlk) rfl rfl rfl hcal.2.2.2.2 hrm
  exact x_backN hw (vx_runV (g := F0 m pc ls st0) (b := ad ob) (As := As ad) (rest := rest) X.1 hMM cw ⟨aPre.blind, va_recv hw.1 hw.2.1 (ci := ci) (q0 := ob) hc ((aWs_get hk).trans (by rw [aCq_o hci])), hpre⟩ rfl hn hl.1 hst (lv_room hcat) hdg hcs) kk
/-- the callee throws, and nobody here catches it -/
theorem x_callT {q : vw_C} {E : String} {f2 w2 : Nat} (X : aX p m c cc nL s args aTs own meth ret) (hw : aW D dA ad adV σ A s H locs) (hout : ∀ x ∈ c.exceptionTable.toList, False) (hM : aMx l y bytes maxL rt f w as σ (.inl (E, σ'))) (hcal : aCal q.1 y bytes maxL rt n) (hlk : Cond.methodLink own index y ∈ aTs) (hrm : f + 1 ≤ f2 ∧ 8 + (maxL + 11) + w ≤ w2) (hk : (aK σ)[ob]? = some (ci, nn)) (hci : ci < 8) (hc : vwCl[ci]? = some q) (has : as ad = .ref (ad ob) :: As ad) (hn : (As ad).length = n) (hl : lv_has ls nL lv) (hst : st0 = (As ad).reverse ++ .ref (ad ob) :: rest) (hcat : (rest.map fun v => v.category).sum ≤ 8) (hdg : decode cc pc = .ok (.invokevirtual index, 3)) :
    W p l e (aRx f2 w2 (.inl (E, σ'))) s m args below meth c H locs 0 0 (vx_MQ below (aQx D dA ad (.inl (E, σ')) A) (aXx D dA ad (.inl (E, σ')) A) args s 1 6 A) (F0 m pc ls st0) := by
  have hpre := hw.pre (as := as)
  have hMM := hM D dA ad adV H.size
  rw [has] at hpre hMM
  have cw : CallW (aRx f2 w2 (.inl (E, σ'))) s args own q.1 index y bytes maxL rt (Cond.code y bytes maxL rt :: aTs) (aRx f w (.inl (E, σ'))) 1 6 n := cwV n X.1.2.2.2.2 (hcal.good hlk) rfl rfl rfl hcal.2.2.2.2 hrm
  have hr := vx_runV (e := e) (below := below) (meth := meth) (locs := locs) (cells := 0) (slots := 0) (g := F0 m pc ls st0) (b := ad ob) (As := As ad) (rest := rest) X.1 hMM cw ⟨aPre.blind, va_recv hw.1 hw.2.1 (ci := ci) (q0 := ob) hc ((aWs_get hk).trans (by rw [aCq_o hci])), hpre⟩ rfl hn hl.1 hst (lv_room hcat) hdg ⟨Nat.le_refl _, Nat.le_refl _⟩
  obtain ⟨hK, hP, hD, hS, hA, hE⟩ := hw
  have hF : ∀ q, va_A (aWs ad dA σ) H.size q → A q := fun q h => by
    rcases h with ⟨k, e9, h⟩ | h
    · exact hD.2 k _ h
    · exact hA q (Nat.le_trans hS.1 h)
  intro T hT XX
  rcases hr T hT XX with ⟨v', st₀, t, T', L, h0, X', hL, e1, e2, hq, st⟩ | ⟨q9, st₀, t, T', L, E', ce, h0, X', hL, e1, e2, hx9, hce, hcv, hcl, st⟩
  · exact absurd hq id
  · obtain ⟨rfl, ⟨bP, bK, bD⟩, hz, hk9⟩ := hx9
    rw [h0] at hz hk9
    have hS1 : va_S A s.heap T'.heap (locs ++ L) := ⟨Nat.le_trans hS.1 (by rw [e1]; exact hz), fun q h1 h2 => by rw [e1, hk9 q (Nat.lt_of_lt_of_le h1 hS.1) (fun z => h2 (hF q z))]; exact hS.2.1 q h1 h2, fun q hq => by
      rcases List.mem_append.mp hq with h | h
      · exact hS.2.2 q h
      · exact hF _ (hL q h)⟩
    have ho := vx_out (p := p) (l := l) (e := e) (R := aRx f2 w2 (.inl (E', σ'))) (below := below) (c := c) (m := m) (args := args) (pc := pc) (ls := ls) (rest := rest) (mc := 1) (ms := 6) (free := A) (Qc := aQx D dA ad (.inl (E', σ')) A) (XC := aXx D dA ad (.inl (E', σ')) A) (H := T'.heap) (locs := locs ++ L) (cells := 1) (slots := 6) (E := E') (ce := ce) (q := q9) (s := s) (meth := meth) (fun x hx9 => absurd (hout x hx9) id) X.2.2 (by rw [e1]; exact hce) hcv hcl
      (fun t9 ht9 hal => ⟨rfl, ⟨by rw [ht9, e1]; exact bP, va_K.moved hal hK, bD.weaken (fun k q _ h => hF q.1 h)⟩, hS1.F ht9⟩) hS1.2.2 (Nat.le_refl _) (Nat.le_refl _)
    obtain ⟨t2, a1, b1⟩ := ho T' rfl X'
    exact ⟨t2, st.trans a1, b1⟩
end AT
