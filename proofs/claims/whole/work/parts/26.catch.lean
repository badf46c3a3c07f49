/-! THE LAW'S WRAPPERS: a call that throws, and a handler here -/
section AC
variable {p : Program} {l : Launch} {e : Env} {R : Room} {s : State} {m : MethodId} {args : Array Value} {below : List Frame} {meth : Method} {c : Code} {H : Heap} {locs : List Loc} {cells slots : Nat} {Q : State → Prop}
variable {cc : ByteArray} {pc nL : Nat} {ls : Array Slot} {rest : List Value} {own : String} {ret : Option FieldType} {D : va_G} {dA : Nat → ClassId} {ad adV : Nat → Nat} {σ : aS} {A : Nat → Prop}
variable {y : MethodName} {bytes : ByteArray} {maxL index n ci nn ob : Nat} {rt : Option FieldType} {f w : Nat} {σ' : aS} {As : (Nat → Nat) → List Value} {as : (Nat → Nat) → List Value} {st0 : List Value} {lv : List (Nat × Value)}
theorem x_callC {q : vw_C} {E : String} {pre suf : List ExceptionTableEntry} {x : ExceptionTableEntry} (X : aX p m c cc nL s args aTs own meth ret) (hw : aW D dA ad adV σ A s H locs) (hM : aMx l y bytes maxL rt f w as σ (.inl (E, σ'))) (hcal : aCal q.1 y bytes maxL rt n) (hlk : Cond.methodLink own index y ∈ aTs) (hrm : f + 1 ≤ R.frames ∧ 8 + (maxL + 11) + w ≤ R.locals) (hk : (aK σ)[ob]? = some (ci, nn)) (hci : ci < 8) (hc : vwCl[ci]? = some q) (has : as ad = .ref (ad ob) :: As ad) (hn : (As ad).length = n) (hl : lv_has ls nL lv) (hst : st0 = (As ad).reverse ++ .ref (ad ob) :: rest) (hcat : (rest.map fun v => v.category).sum ≤ 8) (hdg : decode cc pc = .ok (.invokevirtual index, 3)) (hcs : cells + 1 ≤ R.cells ∧ slots + 6 ≤ R.slots)
    (hsplit : c.exceptionTable.toList = pre ++ x :: suf) (hpass : ∀ z ∈ pre, covers z pc = false ∨ (z.catchType ≠ 0 ∧ ∃ nm : String, Cond.classLink own z.catchType nm ∈ aTs ∧ (E, nm) ∈ aNcs)) (hx : covers x pc = true) (h0 : x.catchType ≠ 0) (hlink : Cond.classLink own x.catchType E ∈ aTs) (hE9 : E ∈ aXs)
    (kk : ∀ (q9 : Nat) (H1 : Heap) (locs1 : List Loc), aW D dA ad adV σ' A s H1 locs1 → W p l e R s m args below meth c H1 locs1 (cells + 1) (slots + 6) Q (F0 m x.handlerPc ls [.ref q9])) : W p l e R s m args below meth c H locs cells slots Q (F0 m pc ls st0) := by
  have hpre := hw.pre (as := as)
  have hMM := hM D dA ad adV H.size
  rw [has] at hpre hMM
  have cw : CallW R s args own q.1 index y bytes maxL rt (Cond.code y bytes maxL rt :: aTs) (aRx f w (.inl (E, σ'))) 1 6 n := cwV n X.1.2.2.2.2 (hcal.good hlk) rfl rfl rfl hcal.2.2.2.2 hrm
  have hr := vx_runV (e := e) (below := below) (meth := meth) (locs := locs) (cells := cells) (slots := slots) (g := F0 m pc ls st0) (b := ad ob) (As := As ad) (rest := rest) X.1 hMM cw ⟨aPre.blind, va_recv hw.1 hw.2.1 (ci := ci) (q0 := ob) hc ((aWs_get hk).trans (by rw [aCq_o hci])), hpre⟩ rfl hn hl.1 hst (lv_room hcat) hdg hcs
  obtain ⟨hK, hP, hD, hS, hA, hE⟩ := hw
  have hts := X.1.2.2.2.2
  have hF : ∀ q, va_A (aWs ad dA σ) H.size q → A q := fun q h => by
    rcases h with ⟨k, e9, h⟩ | h
    · exact hD.2 k _ h
    · exact hA q (Nat.le_trans hS.1 h)
  intro T hT XX
  rcases hr T hT XX with ⟨v', st₀, t, T', L, h00, X', hL, e1, e2, hq, st⟩ | ⟨q9, st₀, t, T', L, E', ce, h00, X', hL, e1, e2, hx9, hce, hcv, hcl, st⟩
  · exact absurd hq id
  · obtain ⟨rfl, ⟨bP, bK, bD⟩, hz, hk9⟩ := hx9
    rw [h00] at hz hk9
    have hS1 : va_S A s.heap T'.heap (locs ++ L) := ⟨Nat.le_trans hS.1 (by rw [e1]; exact hz), fun q h1 h2 => by rw [e1, hk9 q (Nat.lt_of_lt_of_le h1 hS.1) (fun z => h2 (hF q z))]; exact hS.2.1 q h1 h2, fun q hq => by
      rcases List.mem_append.mp hq with h | h
      · exact hS.2.2 q h
      · exact hF _ (hL q h)⟩
    have hwn : aW D dA ad adV σ' A s T'.heap (locs ++ L) := ⟨hK, by rw [e1]; exact bP, bD.weaken (fun k q _ h => hF q.1 h), hS1, hA, hE⟩
    obtain ⟨-, -, -, -, -, -, -, h10, h11⟩ := hE
    have hv := vx_catch (p := p) (l := l) (e := e) (R := R) (below := below) (c := c) (m := m) (args := args) (meth := meth) (pc := pc) (ls := ls) (rest := rest) (H := T'.heap) (locs := locs ++ L) (cells := cells + 1) (slots := slots + 6) (Q := Q) (E := E') (ce := ce) (q := q9) (s := s) X.1.2.2.2.1 pre x suf hsplit
      (fun z hz9 => by
        rcases hpass z hz9 with h | ⟨h1, nm, h2, h3⟩
        · exact Or.inl h
        · exact Or.inr ⟨h1, nm, hts _ h2, h11 _ h3⟩) hx h0 (hts _ hlink) (va_Nw.use rfl (h10 _ hE9)) (by rw [e1]; exact hce) hcv hcl (kk q9 T'.heap (locs ++ L) hwn)
    obtain ⟨t2, a1, b1⟩ := hv T' rfl X'
    exact ⟨t2, st.trans a1, b1⟩
end AC
/-- a wrapper's contract: it returns; a cell of six slots may come -/
def aMw (l : Launch) (y : MethodName) (b : ByteArray) (nL : Nat) (hh : List (Nat × Nat × Nat × Nat)) (f w : Nat) (as : (Nat → Nat) → List Value) (σ : aS) (v : Option Value) (σ' : aS) : Prop :=
  ∀ (D : va_G) (dA : Nat → ClassId) (ad adV : Nat → Nat) (sz : Nat), Met l y (Cond.codeWith y b nL (some .int) hh :: aTs) { frames := f, cells := 1, slots := 6, locals := w } (aPre D dA ad adV σ sz (as ad)) (aQ D dA ad σ' (va_A (aWs ad dA σ) sz) v) 1 6 (va_A (aWs ad dA σ) sz)
def aRw (f w : Nat) : Room := { frames := f, cells := 1, slots := 6, locals := w }
theorem aMw.of {l : Launch} {y : MethodName} {f w : Nat} {as : (Nat → Nat) → List Value} {σ σ' : aS} {v : Option Value} {cc : ByteArray} {maxL : Nat} {hh : List (Nat × Nat × Nat × Nat)} (hy : plainName y.cls = true) (hn : ∀ ad, (lg_sl (as ad)).length ≤ maxL)
    (body : ∀ (p : Program) (e : Env) (s : State) (m : MethodId) (args : Array Value) (below : List Frame) (meth : Method) (c : Code) (D : va_G) (dA : Nat → ClassId) (ad adV : Nat → Nat) (A : Nat → Prop) (ls : Array Slot), aX p m c cc maxL s args aTs y.cls meth (some .int) → aW D dA ad adV σ A s s.heap [] → lv_has ls maxL (lv_args 0 (as ad)) → c.exceptionTable.toList = tableOf hh →
      W p l e (aRw f w) s m args below meth c s.heap [] 0 0 (MQ below (aQ D dA ad σ' A v) args s 1 6 A) (F0 m 0 ls [])) : aMw l y cc maxL hh f w as σ v σ' := by
  intro D dA ad adV sz
  refine va_MetW (cc := cc) (maxL := maxL) (ret := some .int) (hh := hh) hy rfl ?_
  intro p e s m args below meth c s₁ B hml hv
  obtain ⟨rfl, hsz, hP, hK, hD0, hE⟩ := hv
  have hts := atoms_spec (ws := Cond.codeWith y cc maxL (some .int) hh :: aTs) B.pre
  have htb := vx_table (x := y) B (hts _ List.mem_cons_self)
  have hown : s.vm.findClass y.cls = some m.cls := findClass_of_methodNamed B.named
  subst hsz
  have hD := hD0.self (sz := s.heap.size)
  have hl := lv_entry (as ad) (n := maxL) (hn ad)
  rw [lg_entry_eq]
  exact body p e s m _ below meth c D dA ad adV _ _ ⟨⟨B.exec, B.bytes, hml, hown, fun w h => hts w (List.mem_cons_of_mem _ h)⟩, B.returns, B.notSynchronized⟩ ⟨hK, hP, hD, va_S.rf, fun q h => Or.inr h, hE⟩ hl htb
theorem w_iret {p : Program} {l : Launch} {e : Env} {R : Room} {s : State} {m : MethodId} {args : Array Value} {below : List Frame} {meth : Method} {c : Code} {H : Heap} {locs : List Loc} {cells slots : Nat} {cc : ByteArray} {pc nL : Nat} {ls : Array Slot} {own : String} {D : va_G} {dA : Nat → ClassId} {ad adV : Nat → Nat} {σ : aS} {A : Nat → Prop} {v : Int32} (C : aX p m c cc nL s args aTs own meth (some .int)) (hw : aW D dA ad adV σ A s H locs) (h1 : cells ≤ 1) (h2 : slots ≤ 6) (hdg : decode cc pc = .ok (.ireturn, 1)) : W p l e R s m args below meth c H locs cells slots (MQ below (aQ D dA ad σ A (some (.int v))) args s 1 6 A) (F0 m pc ls [.int v]) := by
  obtain ⟨⟨hx, hb, -, -, -⟩, hr, hlocks⟩ := C
  obtain ⟨hK, hP, hD, hS, -, -⟩ := hw
  refine W.widen h1 h2 ?_
  exact W.iret hx hb hr (fun t ht hW => ⟨rfl, ⟨by rw [ht]; exact hP, va_K.moved hW.alike hK, hD⟩, hS.F ht⟩) hS.2.2 hdg
