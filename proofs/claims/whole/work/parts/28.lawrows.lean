/-! ROWS OF THE LAW'S OWN BODY -/
theorem nI_ad (n c : Nat) : nI n + Int32.ofNat c = nI (n + c) := nI_add n c
section LR
variable {p : Program} {l : Launch} {e : Env} {R : Room} {s : State} {m : MethodId} {args : Array Value} {below : List Frame} {meth : Method} {c : Code} {H : Heap} {locs : List Loc} {cells slots : Nat} {Q : State → Prop}
variable {cc : ByteArray} {pc nL : Nat} {ls : Array Slot} {rest : List Value} {own : String} {ret : Option FieldType} {D : va_G} {dA : Nat → ClassId} {ad adV : Nat → Nat} {σ : aS} {A : Nat → Prop}
theorem s_sld {b L n k : Nat} {xs : Nat → Int32} {i v : Int32} (X : aX p m c cc nL s args aTs own meth ret) (hw : aW D dA ad adV σ A s H locs) (hX : va_X b L xs s s.heap) (hbl : b < s.heap.size) (hbA : ¬ A b) (hi : i = nI (n + k)) (hlt : n + k < L) (hL : L ≤ 3072) (hv : xs (n + k) = v) (hdg : decode cc pc = .ok (.iaload, 1))
    (kk : W p l e R s m args below meth c H locs cells slots Q (F0 m (pc + 1) ls (.int v :: rest))) : W p l e R s m args below meth c H locs cells slots Q (F0 m pc ls (.int i :: .ref b :: rest)) := by
  subst hi
  subst hv
  refine va_sld X.1.1 X.1.2.1 hX hbl hbA hw.2.2.2.1 (vp_in_nI hlt (by omega)) hdg ?_
  rw [nI_clamp (by omega)]
  exact kk
theorem s_slen {b L : Nat} {xs : Nat → Int32} (X : aX p m c cc nL s args aTs own meth ret) (hw : aW D dA ad adV σ A s H locs) (hX : va_X b L xs s s.heap) (hbl : b < s.heap.size) (hbA : ¬ A b) (hdg : decode cc pc = .ok (.arraylength, 1))
    (kk : W p l e R s m args below meth c H locs cells slots Q (F0 m (pc + 1) ls (.int (nI L) :: rest))) : W p l e R s m args below meth c H locs cells slots Q (F0 m pc ls (.ref b :: rest)) := va_slen X.1.1 X.1.2.1 hX hbl hbA hw.2.2.2.1 hdg kk
variable {y : MethodName} {bytes : ByteArray} {maxL index n : Nat} {hh : List (Nat × Nat × Nat × Nat)} {f w : Nat} {σ' : aS} {v : Option Value} {as : (Nat → Nat) → List Value} {st0 : List Value} {lv : List (Nat × Value)}
def aCalW (y : MethodName) (b : ByteArray) (nL : Nat) (hh : List (Nat × Nat × Nat × Nat)) (n : Nat) : Prop := Cond.static y ∈ aTs ∧ Cond.initialized y.cls ∈ aTs ∧ Cond.codeWith y b nL (some .int) hh ∈ aTs ∧ (y.cls ≠ "java/lang/invoke/MethodHandle" ∧ y.cls ≠ "java/lang/invoke/VarHandle" ∧ (parseMethodDescriptor y.desc).map (fun d => d.parameters.length) = some n)
theorem aCalW.good {own : String} {idx : Nat} (h : aCalW y bytes maxL hh n) (hl : Cond.methodLink own idx y ∈ aTs) : GoodIn aTs (va_wsS own idx y (Cond.codeWith y bytes maxL (some .int) hh :: aTs)) := by
  obtain ⟨h1, h2, h3, -⟩ := h
  intro w hw
  simp only [va_wsS, List.cons_append, List.nil_append, List.mem_cons] at hw
  rcases hw with rfl | rfl | rfl | rfl | hw
  · exact aTs_good _ hl
  · exact aTs_good _ h1
  · exact aTs_good _ h2
  · exact aTs_good _ h3
  · exact aTs_good _ hw
theorem x_callW (X : aX p m c cc nL s args aTs own meth ret) (hw : aW D dA ad adV σ A s H locs) (hM : aMw l y bytes maxL hh f w as σ v σ') (hcal : aCalW y bytes maxL hh n) (hlk : Cond.methodLink own index y ∈ aTs) (hrm : f + 1 ≤ R.frames ∧ 8 + (maxL + 11) + w ≤ R.locals) (hn : (as ad).length = n) (hl : lv_has ls nL lv) (hst : st0 = (as ad).reverse ++ rest) (hcat : (rest.map fun v => v.category).sum ≤ 8) (hdg : decode cc pc = .ok (.invokestatic index, 3)) (hcs : cells + 1 ≤ R.cells ∧ slots + 6 ≤ R.slots)
    (kk : ∀ (H1 : Heap) (locs1 : List Loc), aW D dA ad adV σ' A s H1 locs1 → W p l e R s m args below meth c H1 locs1 (cells + 1) (slots + 6) Q (F0 m (pc + 3) ls (v.toList ++ rest))) : W p l e R s m args below meth c H locs cells slots Q (F0 m pc ls st0) := by
  have cw : vx_CSW R s args own index y bytes maxL (some .int) hh (Cond.codeWith y bytes maxL (some .int) hh :: aTs) { frames := f, cells := 1, slots := 6, locals := w } 1 6 n := vx_cwSW n X.1.2.2.2.2 (hcal.good hlk) rfl rfl rfl hcal.2.2.2 hrm
  have hr := vx_runSW (e := e) (below := below) (meth := meth) (locs := locs) (cells := cells) (slots := slots) (H := H) (g := F0 m pc ls st0) (As := as ad) (rest := rest) X.1 (hM D dA ad adV H.size) cw ⟨aPre.blind, hw.pre⟩ rfl hn hl.1 hst (lv_room hcat) hdg hcs
  obtain ⟨hK, hP, hD, hS, hA, hE⟩ := hw
  have hF : ∀ q, va_A (aWs ad dA σ) H.size q → A q := fun q h => by
    rcases h with ⟨k, e9, h⟩ | h
    · exact hD.2 k _ h
    · exact hA q (Nat.le_trans hS.1 h)
  intro T hT XX
  obtain ⟨v', st₀, t, T', L, h0, X', hL, e1, e2, ⟨hv, ⟨bP, bK, bD⟩, hz, hk⟩, st⟩ := hr T hT XX
  cases hv
  rw [h0] at hz hk
  obtain ⟨t2, a1, b1⟩ := kk T'.heap (locs ++ L) ⟨hK, by rw [e1]; exact bP, bD.weaken (fun k q _ h => hF q.1 h), ⟨Nat.le_trans hS.1 (by rw [e1]; exact hz), fun q h1 h2 => by rw [e1, hk q (Nat.lt_of_lt_of_le h1 hS.1) (fun z => h2 (hF q z))]; exact hS.2.1 q h1 h2, fun q hq => by
      rcases List.mem_append.mp hq with h | h
      · exact hS.2.2 q h
      · exact hF _ (hL q h)⟩, hA, hE⟩ T' rfl X'
  exact ⟨t2, st t2 a1, b1⟩
end LR
