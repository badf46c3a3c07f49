/-! THE HEAP BY NUMBERS. A cell has a number o; its kind (tag, length) stands at place o of the list of kinds: tag 0 to 7 an object of that class of vwCl, 8 byte[], 9 int[], 10 long[], 11 Lineup[], 12 int[][]. What it holds: ints (fields, int and byte places), longs, references by numbers. 'ad' says where a number lies on the machine. -/
abbrev aS : Type := List (Nat × Nat) × (Nat → Nat → Int32) × (Nat → Nat → Int64) × (Nat → Nat → Option Nat)
def aK (σ : aS) : List (Nat × Nat) := σ.1
def aI (σ : aS) : Nat → Nat → Int32 := σ.2.1
def aJ (σ : aS) : Nat → Nat → Int64 := σ.2.2.1
def aP (σ : aS) : Nat → Nat → Option Nat := σ.2.2.2
def a2 {α : Type} (f : Nat → Nat → α) (o k : Nat) (v : α) : Nat → Nat → α := fun x y => if x = o ∧ y = k then v else f x y
def aPI (σ : aS) (o k : Nat) (v : Int32) : aS := (aK σ, a2 (aI σ) o k v, aJ σ, aP σ)
def aPJ (σ : aS) (o k : Nat) (v : Int64) : aS := (aK σ, aI σ, a2 (aJ σ) o k v, aP σ)
def aPP (σ : aS) (o k : Nat) (v : Option Nat) : aS := (aK σ, aI σ, aJ σ, a2 (aP σ) o k v)
/-- a whole row of ints anew (System.arraycopy) -/
def aRI (σ : aS) (o : Nat) (f : Nat → Int32) : aS := (aK σ, fun x => if x = o then f else aI σ x, aJ σ, aP σ)
/-- a new cell, all nought -/
def aNew (σ : aS) (t n : Nat) : aS := (aK σ ++ [(t, n)], fun x => if x = (aK σ).length then fun _ => 0 else aI σ x, fun x => if x = (aK σ).length then fun _ => 0 else aJ σ x, fun x => if x = (aK σ).length then fun _ => none else aP σ x)
theorem a2_same {α : Type} (f : Nat → Nat → α) (o k : Nat) (v : α) : a2 f o k v o k = v := by simp [a2]
theorem a2_ne {α : Type} (f : Nat → Nat → α) {o k x y : Nat} (v : α) (h : ¬ (x = o ∧ y = k)) : a2 f o k v x y = f x y := by simp [a2, h]
theorem a2_row {α : Type} (f : Nat → Nat → α) {o k x : Nat} (v : α) (h : x ≠ o) : a2 f o k v x = f x := by funext y; simp [a2, h]
theorem a2_upd (f : Nat → Nat → Int32) (o k : Nat) (v : Int32) : a2 f o k v o = upd (f o) k v := by funext y; simp [a2, upd]
theorem a2_updL (f : Nat → Nat → Int64) (o k : Nat) (v : Int64) : a2 f o k v o = vp_updL (f o) k v := by funext y; simp [a2, vp_updL]
theorem aK_PI (σ : aS) (o k : Nat) (v : Int32) : aK (aPI σ o k v) = aK σ := rfl
theorem aK_PJ (σ : aS) (o k : Nat) (v : Int64) : aK (aPJ σ o k v) = aK σ := rfl
theorem aK_PP (σ : aS) (o k : Nat) (v : Option Nat) : aK (aPP σ o k v) = aK σ := rfl
theorem aK_RI (σ : aS) (o : Nat) (f : Nat → Int32) : aK (aRI σ o f) = aK σ := rfl
theorem aI_PI (σ : aS) (o k : Nat) (v : Int32) (x y : Nat) : aI (aPI σ o k v) x y = if x = o ∧ y = k then v else aI σ x y := rfl
theorem aI_PJ (σ : aS) (o k : Nat) (v : Int64) : aI (aPJ σ o k v) = aI σ := rfl
theorem aI_PP (σ : aS) (o k : Nat) (v : Option Nat) : aI (aPP σ o k v) = aI σ := rfl
theorem aI_RI (σ : aS) (o : Nat) (f : Nat → Int32) (x y : Nat) : aI (aRI σ o f) x y = if x = o then f y else aI σ x y := by
  show (if x = o then f else aI σ x) y = _
  split <;> rfl
theorem aJ_PI (σ : aS) (o k : Nat) (v : Int32) : aJ (aPI σ o k v) = aJ σ := rfl
theorem aJ_PJ (σ : aS) (o k : Nat) (v : Int64) (x y : Nat) : aJ (aPJ σ o k v) x y = if x = o ∧ y = k then v else aJ σ x y := rfl
theorem aJ_PP (σ : aS) (o k : Nat) (v : Option Nat) : aJ (aPP σ o k v) = aJ σ := rfl
theorem aJ_RI (σ : aS) (o : Nat) (f : Nat → Int32) : aJ (aRI σ o f) = aJ σ := rfl
theorem aP_PI (σ : aS) (o k : Nat) (v : Int32) : aP (aPI σ o k v) = aP σ := rfl
theorem aP_PJ (σ : aS) (o k : Nat) (v : Int64) : aP (aPJ σ o k v) = aP σ := rfl
theorem aP_PP (σ : aS) (o k : Nat) (v : Option Nat) (x y : Nat) : aP (aPP σ o k v) x y = if x = o ∧ y = k then v else aP σ x y := rfl
theorem aP_RI (σ : aS) (o : Nat) (f : Nat → Int32) : aP (aRI σ o f) = aP σ := rfl
/-- the fields of a class by their kinds: 0 an int (or boolean), 1 a long, 2 a reference -/
def aT (c : Nat) : List Nat := [[0, 1, 1, 0, 0, 2], [2, 2, 0], [0, 0, 0, 2, 2, 2, 2, 2, 2, 2, 2], [2, 2, 0, 2, 0, 0, 0], [2, 2, 2, 0, 2, 0], [0, 2, 0, 0, 0], [2, 0, 2, 2, 2, 0, 0, 2, 2, 2, 2], [0, 2, 0, 0, 0, 0, 0, 0, 2, 2, 2, 2, 0, 0, 0, 0, 2, 2, 1, 1]].getD c []
def aFv (ad : Nat → Nat) (σ : aS) (o k t : Nat) : Value := if t = 0 then .int (aI σ o k) else if t = 1 then .long (aJ σ o k) else va_rf ((aP σ o k).map ad)
def aFs (ad : Nat → Nat) (σ : aS) (o : Nat) (ts : List Nat) : List Value := ts.mapIdx (fun k t => aFv ad σ o k t)
def aCq (ad : Nat → Nat) (dA : Nat → ClassId) (σ : aS) (o t n : Nat) : va_E := if t < 8 then .inr (t, aFs ad σ o (aT t)) else if t < 10 then .inl (dA t, n, .inl (aI σ o)) else if t = 10 then .inl (dA 10, n, .inr (.inl (aJ σ o))) else .inl (dA t, n, .inr (.inr (.inr (.inr (fun j => (aP σ o j).map ad)))))
def aC (ad : Nat → Nat) (dA : Nat → ClassId) (σ : aS) (o : Nat) : va_E := aCq ad dA σ o ((aK σ).getD o (0, 0)).1 ((aK σ).getD o (0, 0)).2
def aWs (ad : Nat → Nat) (dA : Nat → ClassId) (σ : aS) : va_W := (List.range (aK σ).length).map (fun o => (ad o, aC ad dA σ o))
theorem aK_lt {σ : aS} {o : Nat} {q : Nat × Nat} (h : (aK σ)[o]? = some q) : o < (aK σ).length := (List.getElem?_eq_some_iff.mp h).1
theorem aK_D {σ : aS} {o : Nat} {q : Nat × Nat} (h : (aK σ)[o]? = some q) : (aK σ).getD o (0, 0) = q := by simp [List.getD_eq_getElem?_getD, h]
theorem aC_of {ad : Nat → Nat} {dA : Nat → ClassId} {σ : aS} {o t n : Nat} (h : (aK σ)[o]? = some (t, n)) : aC ad dA σ o = aCq ad dA σ o t n := by unfold aC; rw [aK_D h]
theorem aWs_get {ad : Nat → Nat} {dA : Nat → ClassId} {σ : aS} {o t n : Nat} (h : (aK σ)[o]? = some (t, n)) : (aWs ad dA σ)[o]? = some (ad o, aCq ad dA σ o t n) := by
  unfold aWs
  rw [List.getElem?_map, List.getElem?_range (aK_lt h)]
  show some (ad o, aC ad dA σ o) = _
  rw [aC_of h]
theorem aWs_len (ad : Nat → Nat) (dA : Nat → ClassId) (σ : aS) : (aWs ad dA σ).length = (aK σ).length := by simp [aWs]
theorem aWs_set {ad : Nat → Nat} {dA : Nat → ClassId} {σ σ' : aS} {o : Nat} {e : va_E} (hK : aK σ' = aK σ) (ho : o < (aK σ).length) (he : aC ad dA σ' o = e) (hn : ∀ x, x ≠ o → aC ad dA σ' x = aC ad dA σ x) : (aWs ad dA σ).set o (ad o, e) = aWs ad dA σ' := by
  apply List.ext_getElem?
  intro i
  rw [List.getElem?_set]
  by_cases hi : o = i
  · subst hi
    rw [if_pos rfl, if_pos (by rw [aWs_len]; exact ho)]
    unfold aWs
    rw [hK, List.getElem?_map, List.getElem?_range ho]
    show _ = some (ad o, aC ad dA σ' o)
    rw [he]
  · rw [if_neg hi]
    unfold aWs
    rw [hK, List.getElem?_map, List.getElem?_map]
    cases h : (List.range (aK σ).length)[i]? with
    | none => rfl
    | some x =>
      have hx : x = i := by
        obtain ⟨h1, h2⟩ := List.getElem?_eq_some_iff.mp h
        rw [List.getElem_range] at h2
        exact h2.symm
      subst hx
      show some (ad x, aC ad dA σ x) = some (ad x, aC ad dA σ' x)
      rw [hn x (fun q => hi q.symm)]
theorem aFs_get {ad : Nat → Nat} {σ : aS} {o k t : Nat} {ts : List Nat} (h : ts[k]? = some t) : (aFs ad σ o ts)[k]? = some (aFv ad σ o k t) := by
  unfold aFs
  rw [List.getElem?_mapIdx, h]
  rfl
theorem aFs_len (ad : Nat → Nat) (σ : aS) (o : Nat) (ts : List Nat) : (aFs ad σ o ts).length = ts.length := by simp [aFs]
theorem aFs_set {ad : Nat → Nat} {σ σ' : aS} {o k t : Nat} {ts : List Nat} {v : Value} (h : ts[k]? = some t) (hv : aFv ad σ' o k t = v) (hn : ∀ j u, ts[j]? = some u → j ≠ k → aFv ad σ' o j u = aFv ad σ o j u) : (aFs ad σ o ts).set k v = aFs ad σ' o ts := by
  apply List.ext_getElem?
  intro i
  rw [List.getElem?_set]
  by_cases hi : k = i
  · subst hi
    rw [if_pos rfl, if_pos (by rw [aFs_len]; exact (List.getElem?_eq_some_iff.mp h).1), aFs_get h, hv]
  · rw [if_neg hi]
    cases hx : ts[i]? with
    | none =>
      have h1 : ts.length ≤ i := List.getElem?_eq_none_iff.mp hx
      rw [List.getElem?_eq_none_iff.mpr (by rw [aFs_len]; exact h1), List.getElem?_eq_none_iff.mpr (by rw [aFs_len]; exact h1)]
    | some u => rw [aFs_get hx, aFs_get hx, hn i u hx (fun q => hi q.symm)]
theorem aC_congr {ad : Nat → Nat} {dA : Nat → ClassId} {σ σ' : aS} {x : Nat} (hK : aK σ' = aK σ) (h1 : aI σ' x = aI σ x) (h2 : aJ σ' x = aJ σ x) (h3 : aP σ' x = aP σ x) : aC ad dA σ' x = aC ad dA σ x := by
  unfold aC aCq
  rw [hK]
  have hf : ∀ ts, aFs ad σ' x ts = aFs ad σ x ts := fun ts => by
    unfold aFs aFv
    rw [h1, h2, h3]
  rw [hf, h1, h2, h3]
theorem aWs_PI {ad : Nat → Nat} {dA : Nat → ClassId} {σ : aS} {o k t n : Nat} {v : Int32} (h : (aK σ)[o]? = some (t, n)) (ht : t < 8) (hk : (aT t)[k]? = some 0) : (aWs ad dA σ).set o (ad o, .inr (t, (aFs ad σ o (aT t)).set k (.int v))) = aWs ad dA (aPI σ o k v) := by
  refine aWs_set (σ' := aPI σ o k v) rfl (aK_lt h) ?_ (fun x hx => aC_congr rfl (a2_row _ _ hx) rfl rfl)
  rw [aC_of (σ := aPI σ o k v) h]
  unfold aCq
  rw [if_pos ht, aFs_set (σ' := aPI σ o k v) hk (by simp [aFv, aI_PI]) (fun j u _ hj => by simp [aFv, aI_PI, aJ_PI, aP_PI, hj])]
theorem aWs_PJ {ad : Nat → Nat} {dA : Nat → ClassId} {σ : aS} {o k t n : Nat} {v : Int64} (h : (aK σ)[o]? = some (t, n)) (ht : t < 8) (hk : (aT t)[k]? = some 1) : (aWs ad dA σ).set o (ad o, .inr (t, (aFs ad σ o (aT t)).set k (.long v))) = aWs ad dA (aPJ σ o k v) := by
  refine aWs_set (σ' := aPJ σ o k v) rfl (aK_lt h) ?_ (fun x hx => aC_congr rfl rfl (a2_row _ _ hx) rfl)
  rw [aC_of (σ := aPJ σ o k v) h]
  unfold aCq
  rw [if_pos ht, aFs_set (σ' := aPJ σ o k v) hk (by simp [aFv, aJ_PJ]) (fun j u _ hj => by simp [aFv, aI_PJ, aJ_PJ, aP_PJ, hj])]
theorem aWs_PP {ad : Nat → Nat} {dA : Nat → ClassId} {σ : aS} {o k t n : Nat} {v : Option Nat} (h : (aK σ)[o]? = some (t, n)) (ht : t < 8) (hk : (aT t)[k]? = some 2) : (aWs ad dA σ).set o (ad o, .inr (t, (aFs ad σ o (aT t)).set k (va_rf (v.map ad)))) = aWs ad dA (aPP σ o k v) := by
  refine aWs_set (σ' := aPP σ o k v) rfl (aK_lt h) ?_ (fun x hx => aC_congr rfl rfl rfl (a2_row _ _ hx))
  rw [aC_of (σ := aPP σ o k v) h]
  unfold aCq
  rw [if_pos ht, aFs_set (σ' := aPP σ o k v) hk (by simp [aFv, aP_PP]) (fun j u _ hj => by simp [aFv, aI_PP, aJ_PP, aP_PP, hj])]
theorem aWs_AI {ad : Nat → Nat} {dA : Nat → ClassId} {σ : aS} {o k t n : Nat} {v : Int32} (h : (aK σ)[o]? = some (t, n)) (ht : ¬ t < 8) (ht2 : t < 10) : (aWs ad dA σ).set o (ad o, .inl (dA t, n, .inl (upd (aI σ o) k v))) = aWs ad dA (aPI σ o k v) := by
  refine aWs_set (σ' := aPI σ o k v) rfl (aK_lt h) ?_ (fun x hx => aC_congr rfl (a2_row _ _ hx) rfl rfl)
  rw [aC_of (σ := aPI σ o k v) h]
  unfold aCq
  rw [if_neg ht, if_pos ht2]
  show Sum.inl (dA t, n, Sum.inl (a2 (aI σ) o k v o)) = _
  rw [a2_upd]
theorem aWs_RI {ad : Nat → Nat} {dA : Nat → ClassId} {σ : aS} {o t n : Nat} {f : Nat → Int32} (h : (aK σ)[o]? = some (t, n)) (ht : ¬ t < 8) (ht2 : t < 10) : (aWs ad dA σ).set o (ad o, .inl (dA t, n, .inl f)) = aWs ad dA (aRI σ o f) := by
  refine aWs_set (σ' := aRI σ o f) rfl (aK_lt h) ?_ (fun x hx => aC_congr rfl (if_neg hx) rfl rfl)
  rw [aC_of (σ := aRI σ o f) h]
  unfold aCq
  rw [if_neg ht, if_pos ht2]
  show Sum.inl (dA t, n, Sum.inl (if o = o then f else aI σ o)) = _
  rw [if_pos rfl]
theorem aWs_AJ {ad : Nat → Nat} {dA : Nat → ClassId} {σ : aS} {o k n : Nat} {v : Int64} (h : (aK σ)[o]? = some (10, n)) : (aWs ad dA σ).set o (ad o, .inl (dA 10, n, .inr (.inl (vp_updL (aJ σ o) k v)))) = aWs ad dA (aPJ σ o k v) := by
  refine aWs_set (σ' := aPJ σ o k v) rfl (aK_lt h) ?_ (fun x hx => aC_congr rfl rfl (a2_row _ _ hx) rfl)
  rw [aC_of (σ := aPJ σ o k v) h]
  unfold aCq
  rw [if_neg (by decide), if_neg (by decide), if_pos rfl]
  show Sum.inl (dA 10, n, Sum.inr (Sum.inl (a2 (aJ σ) o k v o))) = _
  rw [a2_updL]
theorem aWs_AP {ad : Nat → Nat} {dA : Nat → ClassId} {σ : aS} {o k t n : Nat} {v : Option Nat} (h : (aK σ)[o]? = some (t, n)) (ht : 10 < t) : (aWs ad dA σ).set o (ad o, .inl (dA t, n, .inr (.inr (.inr (.inr (va_up (fun j => (aP σ o j).map ad) k (v.map ad))))))) = aWs ad dA (aPP σ o k v) := by
  refine aWs_set (σ' := aPP σ o k v) rfl (aK_lt h) ?_ (fun x hx => aC_congr rfl rfl rfl (a2_row _ _ hx))
  rw [aC_of (σ := aPP σ o k v) h]
  unfold aCq
  rw [if_neg (by omega), if_neg (by omega), if_neg (by omega)]
  have e : (fun j => (aP (aPP σ o k v) o j).map ad) = va_up (fun j => (aP σ o j).map ad) k (v.map ad) := by
    funext j
    simp only [aP_PP, va_up, true_and]
    split <;> rfl
  rw [e]
