/-! int[8][883] of the reference: cells 114 to 122 at once -/
theorem aGs_oldm {n n' : Nat} {U : List (Nat × Nat)} {ι ι' : iS} {ad ad1 : Nat → Nat} {dA : Nat → ClassId} {o : Nat} (ho : o < n) (hnn : n ≤ n') (hn : n' ≤ 126) (hi : gI ι' o = gI ι o) (hj : gJ ι' o = gJ ι o) (hE : ∀ y z, U.contains (o, y) = false → aP1 o y = some z → ad1 z = ad z) : aC ad1 dA (aGs n' U ι') o = aC ad dA (aGs n U ι) o := by
  have hlen : aKd.length = 126 := by decide +kernel
  obtain ⟨q, hq⟩ : ∃ q, aKd[o]? = some q := ⟨_, List.getElem?_eq_getElem (by omega)⟩
  obtain ⟨t, m⟩ := q
  rw [aC_of (σ := aGs n' U ι') (aGs_k (by omega) hq), aC_of (σ := aGs n U ι) (aGs_k ho hq)]
  have h1 : aI (aGs n' U ι') o = aI (aGs n U ι) o := hi
  have h2 : aJ (aGs n' U ι') o = aJ (aGs n U ι) o := hj
  have h3 : ∀ y, (aP (aGs n' U ι') o y).map ad1 = (aP (aGs n U ι) o y).map ad := by
    intro y
    show Option.map ad1 (if (decide (o < n') && !U.contains (o, y)) = true then aP1 o y else none) = Option.map ad (if (decide (o < n) && !U.contains (o, y)) = true then aP1 o y else none)
    rw [decide_eq_true (show o < n' by omega), decide_eq_true ho]
    cases hc : U.contains (o, y) with
    | true => rfl
    | false =>
      cases hp : aP1 o y with
      | none => rfl
      | some z =>
        show some (ad1 z) = some (ad z)
        rw [hE y z hc hp]
  unfold aCq
  have hf : ∀ ts, aFs ad1 (aGs n' U ι') o ts = aFs ad (aGs n U ι) o ts := fun ts => by
    unfold aFs aFv
    simp only [h1, h2, h3]
  have hg : (fun j => (aP (aGs n' U ι') o j).map ad1) = fun j => (aP (aGs n U ι) o j).map ad := funext h3
  rw [hf, h1, h2, hg]
/-- rows 115 to 122 all nought -/
def zM (ι : iS) : iS := (fun x => if 115 ≤ x ∧ x < 123 then fun _ => 0 else gI ι x, gJ ι, gP ι)
set_option maxHeartbeats 1000000 in
theorem n_mna {p : Program} {l : Launch} {e : Env} {R : Room} {s : State} {m : MethodId} {args : Array Value} {below : List Frame} {meth : Method} {c : Code} {H : Heap} {locs : List Loc} {cells slots : Nat} {Q : State → Prop}
  {cc : ByteArray} {pc nL : Nat} {ls : Array Slot} {rest : List Value} {own : String} {ret : Option FieldType} {D : va_G} {dA : Nat → ClassId} {ad adV : Nat → Nat} {U : List (Nat × Nat)} {ι : iS} {A : Nat → Prop} {index : Nat} (X : aX p m c cc nL s args aTs own meth ret) (hY : aY s) (hw : aW D dA ad adV (aGs 114 U ι) A s H locs) (hU0 : ∀ j, U.contains (114, j) = false) (hp : ∀ i, i < 12 → (U.contains (aPar (114 + i)) || decide (114 ≤ (aPar (114 + i)).1)) = true) (hclink : Cond.classLink own index "[[I" ∈ aTs) (hcells : cells + 9 ≤ R.cells) (hslots : slots + 7072 ≤ R.slots) (hdg : decode cc pc = .ok (.multianewarray index 2, 4))
    (kk : ∀ (ad1 : Nat → Nat) (H1 : Heap), (∀ x, x < 114 ∨ 1000000 ≤ x → ad1 x = ad x) → aW D dA ad1 adV (aGs 123 U (zM ι)) A s H1 locs → W p l e R s m args below meth c H1 locs (cells + 9) (slots + 7072) Q (F0 m (pc + 4) ls (.ref (ad1 114) :: rest))) : W p l e R s m args below meth c H locs cells slots Q (F0 m pc ls (.int 883 :: .int 8 :: rest)) := by
  obtain ⟨hK, hP, hD, hS, hA, hE⟩ := hw
  have hts := X.1.2.2.2.2
  have hcy : s.vm.findClass (FieldType.array .int).toString = some (dA 9) := (hK.2 1 _ rfl).2
  refine va_mna (X := aWs ad dA (aGs 114 U ι)) (L := []) (f := fun _ => .inl (dA 9, 0, .inl fun _ => 0)) (ty := .int) (cy := dA 9) (N' := 8) (K' := 883) (z := (883, .inl fun _ => 0)) X.1.1 X.1.2.1 X.1.2.2.2.1 (hts _ hclink) hY.2 (hts _ wA_9) hcy hK (by simpa [va_pl] using hP) (by simpa [va_pl] using hD) hS hA (by decide) (by decide) (by decide) (by decide) (by decide) (by decide) (by decide) rfl rfl hcells hslots (fun c9 => ?_) hdg (fun q r cA H1 hinj hnL hK1 hP1 hD1 hS1 => ?_)
  · rw [vp_cell_i, ← arrV_new]
    rfl
  have hcA : cA = dA 12 := by
    have q4 := (hK.2 4 _ rfl).2
    have p4 := (hK1.2 5 _ rfl).2
    exact Option.some.inj (p4.symm.trans q4)
  subst hcA
  have hlist : ∀ ad1 : Nat → Nat, (∀ x, x < 114 → ad1 x = ad x) → ad1 114 = q → (∀ i, i < 8 → ad1 (115 + i) = r i) → aWs ad1 dA (aGs 123 U (zM ι)) = (aWs ad dA (aGs 114 U ι) ++ [(q, .inl (dA 12, 8, .inr (.inr (.inr (.inr (fun i => if i < 8 then some (r i) else none))))))]) ++ va_pl ([] ++ (List.range 8).map r) (vr_up (fun _ => .inl (dA 9, 0, .inl fun _ => 0)) ((List.range 8).map r) (.inl (dA 9, (883, .inl fun _ => 0)))) := by
    intro ad1 h1 h2 h3
    have e1 : aWs ad1 dA (aGs 123 U (zM ι)) = (List.range 114).map (fun o => (ad1 o, aC ad1 dA (aGs 123 U (zM ι)) o)) ++ ([114, 115, 116, 117, 118, 119, 120, 121, 122].map (fun o => (ad1 o, aC ad1 dA (aGs 123 U (zM ι)) o))) := by
      unfold aWs
      rw [aGs_len (by decide), show List.range 123 = List.range 114 ++ [114, 115, 116, 117, 118, 119, 120, 121, 122] by decide +kernel, List.map_append]
    have e2 : (List.range 114).map (fun o => (ad1 o, aC ad1 dA (aGs 123 U (zM ι)) o)) = aWs ad dA (aGs 114 U ι) := by
      unfold aWs
      rw [aGs_len (by decide)]
      refine List.map_congr_left (fun o ho => ?_)
      have ho := List.mem_range.mp ho
      rw [h1 o ho]
      refine Prod.ext rfl ?_
      show aC ad1 dA (aGs 123 U (zM ι)) o = aC ad dA (aGs 114 U ι) o
      refine aGs_oldm ho (by decide) (by decide) (if_neg (by omega)) rfl (fun y z hu hz => ?_)
      have hz3 := (aP1_lt hz).2.2
      rcases Nat.lt_or_ge z 114 with h | h
      · exact h1 z h
      · exfalso
        have hpar := aPar_ok hz
        have h5 := hp (z - 114) (by omega)
        rw [show 114 + (z - 114) = z by omega, hpar, hu, Bool.false_or] at h5
        have := of_decide_eq_true h5
        omega
    have e3 : [114, 115, 116, 117, 118, 119, 120, 121, 122].map (fun o => (ad1 o, aC ad1 dA (aGs 123 U (zM ι)) o)) = [(q, Sum.inl (dA 12, 8, .inr (.inr (.inr (.inr (fun i => if i < 8 then some (r i) else none))))))] ++ (List.range 8).map (fun i => (r i, Sum.inl (dA 9, (883, .inl fun _ => 0)))) := by
      have f1 : aC ad1 dA (aGs 123 U (zM ι)) 114 = Sum.inl (dA 12, 8, .inr (.inr (.inr (.inr (fun i => if i < 8 then some (r i) else none))))) := by
        rw [aC_of (σ := aGs 123 U (zM ι)) (t := 12) (n := 8) rfl, aCq_p (by decide)]
        have hfun : (fun j => (aP (aGs 123 U (zM ι)) 114 j).map ad1) = fun i => if i < 8 then some (r i) else none := by
          funext j
          by_cases hj : j < 8
          · rw [if_pos hj, ← h3 j hj]
            have hp1 : aP1 114 j = some (115 + j) := by
              have : ∀ j, j < 8 → aP1 114 j = some (115 + j) := by decide +kernel
              exact this j hj
            have hu : U.contains (114, j) = false := hU0 j
            show Option.map ad1 (if (decide (114 < 123) && !U.contains (114, j)) = true then aP1 114 j else none) = _
            rw [hu, if_pos (by decide), hp1]
            rfl
          · rw [if_neg hj]
            have hp1 : aP1 114 j = none := by
              cases hz : aP1 114 j with
              | none => rfl
              | some z =>
                have hy := (aP1_lt hz).2.1
                have : ∀ j, 8 ≤ j → j < 20 → aP1 114 j = none := by
                  have h9 : ∀ j, j < 20 → 8 ≤ j → aP1 114 j = none := by decide +kernel
                  exact fun j a b => h9 j b a
                rw [this j (by omega) hy] at hz
                cases hz
            show Option.map ad1 (if (decide (114 < 123) && !U.contains (114, j)) = true then aP1 114 j else none) = _
            rw [hp1]
            split <;> rfl
        rw [hfun]
      have f2 : ∀ i, i < 8 → (ad1 (115 + i), aC ad1 dA (aGs 123 U (zM ι)) (115 + i)) = (r i, Sum.inl (dA 9, (883, .inl fun _ => 0))) := by
        intro i hi
        have hk : aKd[115 + i]? = some (9, 883) := by
          have : ∀ i, i < 8 → aKd[115 + i]? = some (9, 883) := by decide +kernel
          exact this i hi
        rw [h3 i hi, aC_of (σ := aGs 123 U (zM ι)) (aGs_k (by omega) hk), aCq_i (by decide) (by decide)]
        show (r i, Sum.inl (dA 9, 883, Sum.inl (if 115 ≤ 115 + i ∧ 115 + i < 123 then fun _ => (0 : Int32) else gI ι (115 + i)))) = _
        rw [if_pos (by omega)]
      have g := fun i hi => f2 i hi
      simp only [List.map_cons, List.map_nil, show List.range 8 = [0, 1, 2, 3, 4, 5, 6, 7] by decide, List.cons_append, List.nil_append]
      rw [h2, f1, f2 0 (by decide), f2 1 (by decide), f2 2 (by decide), f2 3 (by decide), f2 4 (by decide), f2 5 (by decide), f2 6 (by decide), f2 7 (by decide)]
    rw [e1, e2, e3, List.append_assoc]
    refine congrArg (fun z => aWs ad dA (aGs 114 U ι) ++ ([(q, Sum.inl (dA 12, 8, .inr (.inr (.inr (.inr (fun i => if i < 8 then some (r i) else none))))))] ++ z)) ?_
    unfold va_pl vr_up
    rw [List.nil_append, List.map_map]
    refine List.map_congr_left (fun i hi => ?_)
    show (r i, _) = (r i, if r i ∈ (List.range 8).map r then _ else _)
    rw [if_pos (List.mem_map.mpr ⟨i, hi, rfl⟩)]
  have K := kk (fun x => if x = 114 then q else if 115 ≤ x ∧ x < 123 then r (x - 115) else ad x) H1 (fun x hx => by rw [if_neg (by omega), if_neg (by omega)]) ?_
  · exact K
  have hl9 := hlist (fun x => if x = 114 then q else if 115 ≤ x ∧ x < 123 then r (x - 115) else ad x) (fun x hx => by rw [if_neg (by omega), if_neg (by omega)]) (if_pos rfl) (fun i hi => by rw [if_neg (by omega), if_pos (by omega), show 115 + i - 115 = i by omega])
  refine ⟨hK, ?_, ?_, hS1, hA, hE.ext (fun x hx => by rw [if_neg (by omega), if_neg (by omega)])⟩
  · rw [hl9]; exact hP1
  · rw [hl9]; exact hD1
