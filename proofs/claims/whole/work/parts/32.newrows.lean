/-! THE HEAP WHILE THE OBJECTS ARE MADE: the first n cells of the final heap; the references of the list U aren't set yet. A new cell gets an address of its own: 'ad' changes at n alone. -/
def aP1 (o k : Nat) : Option Nat := if o = 24 ∧ k = 4 then some 28 else if o = 29 ∧ k < 8 then some (37 + 9 * k) else aP0 o k
def aGs (n : Nat) (U : List (Nat × Nat)) (ι : iS) : aS := (aKd.take n, gI ι, gJ ι, fun o k => if (decide (o < n) && !U.contains (o, k)) = true then aP1 o k else none)
/-- row o all nought -/
def zR (ι : iS) (o : Nat) : iS := (fun x => if x = o then fun _ => 0 else gI ι x, fun x => if x = o then fun _ => 0 else gJ ι x, gP ι)
theorem aGs_PI (n : Nat) (U : List (Nat × Nat)) (ι : iS) (o k : Nat) (v : Int32) : aPI (aGs n U ι) o k v = aGs n U (pI ι o k v) := rfl
theorem aGs_PJ (n : Nat) (U : List (Nat × Nat)) (ι : iS) (o k : Nat) (v : Int64) : aPJ (aGs n U ι) o k v = aGs n U (pJ ι o k v) := rfl
theorem aGs_P {n : Nat} {U : List (Nat × Nat)} {ι : iS} {o k q : Nat} (h1 : (decide (o < n) && !U.contains (o, k)) = true) (h2 : aP1 o k = some q) : aP (aGs n U ι) o k = some q := by
  show (if (decide (o < n) && !U.contains (o, k)) = true then aP1 o k else none) = some q
  rw [if_pos h1, h2]
/-- a reference is set -/
theorem aGs_set {n : Nat} {U U' : List (Nat × Nat)} {ι : iS} {o k q : Nat} (ho : o < n) (hq : aP1 o k = some q) (hU : U'.contains (o, k) = false) (hU2 : ∀ x y, ¬ (x = o ∧ y = k) → U'.contains (x, y) = U.contains (x, y)) : aPP (aGs n U ι) o k (some q) = aGs n U' ι := by
  have e : aP (aPP (aGs n U ι) o k (some q)) = aP (aGs n U' ι) := by
    funext x y
    show (if x = o ∧ y = k then some q else if (decide (x < n) && !U.contains (x, y)) = true then aP1 x y else none) = (if (decide (x < n) && !U'.contains (x, y)) = true then aP1 x y else none)
    by_cases hx : x = o ∧ y = k
    · obtain ⟨rfl, rfl⟩ := hx
      rw [if_pos ⟨rfl, rfl⟩, hU, decide_eq_true ho, if_pos (by decide), hq]
    · simp only [if_neg hx, hU2 x y hx]
  unfold aPP aGs
  unfold aPP aGs at e
  simp only [aK, aI, aJ, aP] at e ⊢
  rw [e]
theorem aGs_k {n : Nat} {U : List (Nat × Nat)} {ι : iS} {o : Nat} {q : Nat × Nat} (h : o < n) (hq : aKd[o]? = some q) : (aK (aGs n U ι))[o]? = some q := by
  show (aKd.take n)[o]? = some q
  rw [List.getElem?_take, if_pos h, hq]
theorem aGs_len {n : Nat} {U : List (Nat × Nat)} {ι : iS} (h : n ≤ 126) : (aK (aGs n U ι)).length = n := by
  show (aKd.take n).length = n
  rw [List.length_take]
  have : aKd.length = 126 := by decide +kernel
  omega
/-- what a new cell asks of the lists: the old ones' references are as they were, none of them is the new one -/
def nOk (n : Nat) (U U' : List (Nat × Nat)) : Prop := (∀ x y, x < n → U'.contains (x, y) = U.contains (x, y)) ∧ ∀ x y, x < n → U.contains (x, y) = false → aP1 x y ≠ some n
theorem aGs_old {n : Nat} {U U' : List (Nat × Nat)} {ι : iS} {ad ad1 : Nat → Nat} {dA : Nat → ClassId} {o : Nat} (ho : o < n) (hn : n + 1 ≤ 126) (hU : nOk n U U') (hE : ∀ x, x ≠ n → ad1 x = ad x) : aC ad1 dA (aGs (n + 1) U' (zR ι n)) o = aC ad dA (aGs n U ι) o := by
  have hne : o ≠ n := Nat.ne_of_lt ho
  have hlen : aKd.length = 126 := by decide +kernel
  obtain ⟨q, hq⟩ : ∃ q, aKd[o]? = some q := ⟨_, List.getElem?_eq_getElem (by omega)⟩
  obtain ⟨t, m⟩ := q
  rw [aC_of (σ := aGs (n + 1) U' (zR ι n)) (aGs_k (by omega) hq), aC_of (σ := aGs n U ι) (aGs_k ho hq)]
  have h1 : aI (aGs (n + 1) U' (zR ι n)) o = aI (aGs n U ι) o := if_neg hne
  have h2 : aJ (aGs (n + 1) U' (zR ι n)) o = aJ (aGs n U ι) o := if_neg hne
  have h3 : ∀ y, (aP (aGs (n + 1) U' (zR ι n)) o y).map ad1 = (aP (aGs n U ι) o y).map ad := by
    intro y
    show Option.map ad1 (if (decide (o < n + 1) && !U'.contains (o, y)) = true then aP1 o y else none) = Option.map ad (if (decide (o < n) && !U.contains (o, y)) = true then aP1 o y else none)
    rw [hU.1 o y ho, decide_eq_true (show o < n + 1 by omega), decide_eq_true ho]
    cases hc : U.contains (o, y) with
    | true => rfl
    | false =>
      cases hp : aP1 o y with
      | none => rfl
      | some z =>
        show some (ad1 z) = some (ad z)
        rw [hE z (fun hz => hU.2 o y ho hc (by rw [hp, hz]))]
  unfold aCq
  have hf : ∀ ts, aFs ad1 (aGs (n + 1) U' (zR ι n)) o ts = aFs ad (aGs n U ι) o ts := fun ts => by
    unfold aFs aFv
    simp only [h1, h2, h3]
  have hg : (fun j => (aP (aGs (n + 1) U' (zR ι n)) o j).map ad1) = fun j => (aP (aGs n U ι) o j).map ad := funext h3
  rw [hf, h1, h2, hg]
theorem aGs_ws {n : Nat} {U U' : List (Nat × Nat)} {ι : iS} {ad ad1 : Nat → Nat} {dA : Nat → ClassId} (hn : n + 1 ≤ 126) (hU : nOk n U U') (hE : ∀ x, x ≠ n → ad1 x = ad x) : aWs ad1 dA (aGs (n + 1) U' (zR ι n)) = aWs ad dA (aGs n U ι) ++ [(ad1 n, aC ad1 dA (aGs (n + 1) U' (zR ι n)) n)] := by
  unfold aWs
  rw [aGs_len hn, aGs_len (by omega), List.range_succ, List.map_append]
  congr 1
  refine List.map_congr_left (fun o ho => ?_)
  have ho := List.mem_range.mp ho
  rw [aGs_old ho hn hU hE, hE o (Nat.ne_of_lt ho)]
theorem aE.ext {ad ad1 adV : Nat → Nat} {A : Nat → Prop} {U : State} (hE : ∀ x, 1000000 ≤ x → ad1 x = ad x) (h : aE ad adV A U) : aE ad1 adV A U := by
  obtain ⟨h1, h2, h3, h4, h5⟩ := h
  have e1 : (fun k => ad1 (1000000 + k)) = fun k => ad (1000000 + k) := funext fun k => hE _ (by omega)
  have e3 : (fun k => ad1 (3000000 + k)) = fun k => ad (3000000 + k) := funext fun k => hE _ (by omega)
  refine ⟨h1, fun j hj => ?_, ?_, fun q hq => ?_, h5⟩
  · rw [hE (2000000 + j) (by omega)]
    exact h2 j hj
  · rw [e1, e3]
    exact h3
  · have hb : ∀ q ∈ aLdc, 1000000 ≤ q.2.2.2 := by decide
    rw [hE _ (hb q hq)]
    exact h4 q hq
section NR
variable {p : Program} {l : Launch} {e : Env} {R : Room} {s : State} {m : MethodId} {args : Array Value} {below : List Frame} {meth : Method} {c : Code} {H : Heap} {locs : List Loc} {cells slots : Nat} {Q : State → Prop}
variable {cc : ByteArray} {pc nL : Nat} {ls : Array Slot} {rest : List Value} {own : String} {ret : Option FieldType} {D : va_G} {dA : Nat → ClassId} {ad adV : Nat → Nat} {n : Nat} {U U' : List (Nat × Nat)} {ι : iS} {A : Nat → Prop}
/-- a cell is laid at the heap's end -/
theorem n_lay {H1 : Heap} (hw : aW D dA ad adV (aGs n U ι) A s H locs) (hn : n + 1 ≤ 126) (hU : nOk n U U') (z1 : H1.size = H.size + 1) (o1 : ∀ q : Nat, q < H.size → H1[q]? = H[q]?) (hat : va_at D vwCl (va_up ad n H.size n, aC (va_up ad n H.size) dA (aGs (n + 1) U' (zR ι n)) n) H1) : aW D dA (va_up ad n H.size) adV (aGs (n + 1) U' (zR ι n)) A s H1 locs := by
  obtain ⟨hK, hP, hD, hS, hA, hE⟩ := hw
  have hup : ∀ x, x ≠ n → va_up ad n H.size x = ad x := fun x hx => if_neg hx
  refine ⟨hK, ?_, ?_, ⟨Nat.le_trans hS.1 (by omega), fun q h1 h2 => (o1 q (Nat.lt_of_lt_of_le h1 hS.1)).trans (hS.2.1 q h1 h2), hS.2.2⟩, hA, hE.ext (fun x hx => hup x (by omega))⟩
  · rw [aGs_ws hn hU hup]
    refine (hP.kept (fun k q hq => o1 q.1 ((hP k q hq).lt))).app (fun k q hq => ?_)
    have hz9 : k < 1 := (List.getElem?_eq_some_iff.mp hq).1
    rw [show k = 0 by omega] at hq
    cases hq
    exact hat
  · rw [aGs_ws hn hU hup, show va_up ad n H.size n = H.size from if_pos rfl]
    exact hD.push hP rfl (hA _ hS.1)
theorem n_up {q : Nat} : ∀ x, x < n ∨ 1000000 ≤ x → n ≤ 126 → va_up ad n q x = ad x := fun x hx hn => if_neg (by omega)
/-- new T[k] of whole numbers: byte 8, int 9, long 10 -/
theorem n_newa {atype : ArrayType} {ty : FieldType} {t cnt : Nat} {i : Int32} (X : aX p m c cc nL s args aTs own meth ret) (hw : aW D dA ad adV (aGs n U ι) A s H locs) (hn : n + 1 ≤ 126) (hk : aKd[n]? = some (t, cnt)) (hU : nOk n U U') (harr : Cond.arrayClass ty ∈ aTs) (hty : newarray.typeOf atype = ty) (htt : (aTy dA)[t - 8]? = some (dA t, ty)) (h8 : (ty = .byte ∧ t = 8) ∨ (ty = .int ∧ t = 9) ∨ (ty = .long ∧ t = 10)) (hi : ¬ i < 0) (hN : i.toNatClampNeg = cnt) (hbytes : cnt * componentBytes ty ≤ 536870912) (hcells : cells + 1 ≤ R.cells) (hslots : slots + cnt ≤ R.slots) (hdg : decode cc pc = .ok (.newarray atype, 2))
    (kk : ∀ (ad1 : Nat → Nat) (H1 : Heap), (∀ x, x < n ∨ 1000000 ≤ x → ad1 x = ad x) → aW D dA ad1 adV (aGs (n + 1) U' (zR ι n)) A s H1 locs → W p l e R s m args below meth c H1 locs (cells + 1) (slots + cnt) Q (F0 m (pc + 2) ls (.ref (ad1 n) :: rest))) : W p l e R s m args below meth c H locs cells slots Q (F0 m pc ls (.int i :: rest)) := by
  subst hty
  refine va_newaK (g := F0 m pc ls (.int i :: rest)) X.1.1 X.1.2.1 (X.1.2.2.2.2 _ harr) rfl hdg rfl hi hN hbytes hcells hslots rfl fun H1 cA g1 z1 o1 hAr hNm => ?_
  have hcA : cA = dA t := by
    have h2 := (hw.1.2 _ _ htt).2
    have h3 : s.vm.findClass ("[" ++ (newarray.typeOf atype).toString) = some (dA t) := by
      cases atype <;> exact h2
    exact Option.some.inj (hNm.symm.trans h3)
  have e1 : va_up ad n H.size n = H.size := if_pos rfl
  have K := kk (va_up ad n H.size) H1 (fun x hx => n_up x hx (by omega)) (n_lay hw hn hU z1 o1 ?_)
  · rw [e1] at K
    exact K
  rw [aC_of (σ := aGs (n + 1) U' (zR ι n)) (aGs_k (Nat.lt_succ_self n) hk)]
  rw [hcA] at g1
  rcases h8 with ⟨h, rfl⟩ | ⟨h, rfl⟩ | ⟨h, rfl⟩
  · rw [aCq_i (by decide) (by decide), e1]
    show H1[H.size]? = some (vp_cell (dA 8) (cnt, .inl (aI (aGs (n + 1) U' (zR ι n)) n)))
    rw [g1, h, vp_cell_i]
    show some (arrV (dA 8) cnt fun _ => .int 0) = some (arrV (dA 8) cnt fun j => .int ((if n = n then fun _ => (0 : Int32) else gI ι n) j))
    rw [if_pos rfl]
  · rw [aCq_i (by decide) (by decide), e1]
    show H1[H.size]? = some (vp_cell (dA 9) (cnt, .inl (aI (aGs (n + 1) U' (zR ι n)) n)))
    rw [g1, h, vp_cell_i]
    show some (arrV (dA 9) cnt fun _ => .int 0) = some (arrV (dA 9) cnt fun j => .int ((if n = n then fun _ => (0 : Int32) else gI ι n) j))
    rw [if_pos rfl]
  · rw [aCq_j, e1]
    show H1[H.size]? = some (vp_cell (dA 10) (cnt, .inr (.inl (aJ (aGs (n + 1) U' (zR ι n)) n))))
    rw [g1, h, vp_cell_l]
    show some (arrV (dA 10) cnt fun _ => .long 0) = some (arrV (dA 10) cnt fun j => .long ((if n = n then fun _ => (0 : Int64) else gJ ι n) j))
    rw [if_pos rfl]
/-- new C: an object of class ci, all its fields nought -/
theorem n_new {C : String} {T : u_T} {N ci index : Nat} {ty0 : Nat → FieldType} (X : aX p m c cc nL s args aTs own meth ret) (hin : ∀ w ∈ u_ws C T N, w ∈ aTs) (hty : ∀ k, k < N → parseFieldDescriptor (T k).2.2.1 = some (ty0 k)) (hw : aW D dA ad adV (aGs n U ι) A s H locs) (hn : n + 1 ≤ 126) (hk : aKd[n]? = some (ci, 0)) (hci : ci < 8) (hc : vwCl[ci]? = some (C, T, N)) (hU : nOk n U U') (hUn : ∀ j, j < N → (aT ci)[j]? = some 2 → U'.contains (n, j) = true) (hdv : ∀ j, j < N → ∃ t, (aT ci)[j]? = some t ∧ defaultValue (ty0 j) = (if t = 0 then .int 0 else if t = 1 then .long 0 else .null) ∧ t < 3)
    (hcl : Cond.classLink own index C ∈ aTs) (hinst : Cond.instantiable C N ∈ aTs) (hini : Cond.initialized C ∈ aTs) (hcells : cells + 1 ≤ R.cells) (hslots : slots + N ≤ R.slots) (hdg : decode cc pc = .ok (.new index, 3))
    (kk : ∀ (ad1 : Nat → Nat) (H1 : Heap), (∀ x, x < n ∨ 1000000 ≤ x → ad1 x = ad x) → aW D dA ad1 adV (aGs (n + 1) U' (zR ι n)) A s H1 locs → W p l e R s m args below meth c H1 locs (cells + 1) (slots + N) Q (F0 m (pc + 3) ls (.ref (ad1 n) :: rest))) : W p l e R s m args below meth c H locs cells slots Q (F0 m pc ls rest) := by
  have hts := X.1.2.2.2.2
  have hKn := hw.1.1 ci _ hc
  refine W.newcK (g := F0 m pc ls rest) X.1.1 X.1.2.1 X.1.2.2.2.1 (hts _ hcl) (hts _ hinst) (hts _ hini) rfl hdg hcells hslots hKn.2.1 rfl fun H1 kC hkC g1 z1 o1 => ?_
  have e1 : va_up ad n H.size n = H.size := if_pos rfl
  have K := kk (va_up ad n H.size) H1 (fun x hx => n_up x hx (by omega)) (n_lay hw hn hU z1 o1 ?_)
  · rw [e1] at K
    exact K
  rw [aC_of (σ := aGs (n + 1) U' (zR ι n)) (aGs_k (Nat.lt_succ_self n) hk), aCq_o hci, e1]
  refine ⟨_, hc, (u_born ty0 hts hin hKn hkC g1 hty).to (fun j hj => ?_)⟩
  obtain ⟨t, ht, hd, h3⟩ := hdv j hj
  rw [hd]
  unfold vp_V
  rw [List.getD_eq_getElem?_getD, aFs_get ht, Option.getD_some]
  unfold aFv
  rcases (show t = 0 ∨ t = 1 ∨ t = 2 by omega) with rfl | rfl | rfl
  · show Value.int 0 = .int ((if n = n then fun _ => (0 : Int32) else gI ι n) j)
    rw [if_pos rfl]
  · show Value.long 0 = .long ((if n = n then fun _ => (0 : Int64) else gJ ι n) j)
    rw [if_pos rfl]
  · show Value.null = va_rf ((aP (aGs (n + 1) U' (zR ι n)) n j).map (va_up ad n H.size))
    have hz : aP (aGs (n + 1) U' (zR ι n)) n j = none := by
      show (if (decide (n < n + 1) && !U'.contains (n, j)) = true then aP1 n j else none) = none
      rw [hUn j hj ht, if_neg (by simp)]
    rw [hz]
    rfl
/-- new Lineup[k] -/
theorem n_anew {index cnt : Nat} {i : Int32} (X : aX p m c cc nL s args aTs own meth ret) (hw : aW D dA ad adV (aGs n U ι) A s H locs) (hn : n + 1 ≤ 126) (hk : aKd[n]? = some (11, cnt)) (hU : nOk n U U') (hUn : ∀ j, U'.contains (n, j) = true ∨ aP1 n j = none) (hcl : Cond.classLink own index "LineupDesk$Lineup" ∈ aTs) (hover : va_AO "LineupDesk$Lineup" s) (hi : ¬ i < 0) (hN : i.toNatClampNeg = cnt) (hbytes : cnt * 4 ≤ 536870912) (hcells : cells + 1 ≤ R.cells) (hslots : slots + cnt ≤ R.slots) (hdg : decode cc pc = .ok (.anewarray index, 3))
    (kk : ∀ (ad1 : Nat → Nat) (H1 : Heap), (∀ x, x < n ∨ 1000000 ≤ x → ad1 x = ad x) → aW D dA ad1 adV (aGs (n + 1) U' (zR ι n)) A s H1 locs → W p l e R s m args below meth c H1 locs (cells + 1) (slots + cnt) Q (F0 m (pc + 3) ls (.ref (ad1 n) :: rest))) : W p l e R s m args below meth c H locs cells slots Q (F0 m pc ls (.int i :: rest)) := by
  subst hN
  refine W.anew X.1.1 X.1.2.1 X.1.2.2.2.1 (X.1.2.2.2.2 _ hcl) (va_AO.use hover) rfl hdg rfl hi hbytes hcells hslots fun cA kA comp f1 f2 f3 f4 => ?_
  generalize hH1 : H.push ({ cls := cA, slots := Array.replicate i.toNatClampNeg .null, vm := .none } : Cell) = H1
  have z1 : H1.size = H.size + 1 := by rw [← hH1, Array.size_push]
  have g1 : H1[H.size]? = some (arrV cA i.toNatClampNeg (fun _ => .null)) := by rw [← hH1, Array.getElem?_push_size, ← arrV_new]
  have o1 : ∀ q : Nat, q < H.size → H1[q]? = H[q]? := fun q hq => by rw [← hH1, Array.getElem?_push, if_neg (Nat.ne_of_lt hq)]
  show W p l e R s m args below meth c H1 locs (cells + 1) (slots + i.toNatClampNeg) Q (F0 m (pc + 3) ls (.ref H.size :: rest))
  have e1 : va_up ad n H.size n = H.size := if_pos rfl
  have K := kk (va_up ad n H.size) H1 (fun x hx => n_up x hx (by omega)) (n_lay hw hn hU z1 o1 ?_)
  · rw [e1] at K
    exact K
  have hcA : cA = dA 11 := by
    obtain ⟨kA2, comp2, q1, q2, q3, q4⟩ := (hw.1.2 3 _ rfl).2
    exact Option.some.inj (f1.symm.trans q4)
  rw [aC_of (σ := aGs (n + 1) U' (zR ι n)) (aGs_k (Nat.lt_succ_self n) hk), aCq_p (by decide), e1]
  show H1[H.size]? = some (vp_cell (dA 11) (i.toNatClampNeg, .inr (.inr (.inr (.inr (fun j => (aP (aGs (n + 1) U' (zR ι n)) n j).map (va_up ad n H.size)))))))
  have hz : (fun j => (aP (aGs (n + 1) U' (zR ι n)) n j).map (va_up ad n H.size)) = fun _ => none := by
    funext j
    show Option.map _ (if (decide (n < n + 1) && !U'.contains (n, j)) = true then aP1 n j else none) = none
    rcases hUn j with h | h
    · rw [h, if_neg (by simp)]
      rfl
    · rw [h]
      split <;> rfl
  rw [hz, g1, hcA, vp_cell_q]
  rfl
/-- a final reference in a constructor -/
theorem n_putF {C : String} {T : u_T} {N ci index o q : Nat} {ty : FieldType} {ty0 : Nat → FieldType} (X : aX p m c cc nL s args aTs own meth ret) (hin2 : meth.name = "<init>") (hin : ∀ w ∈ u_ws C T N, w ∈ aTs) (hty : ∀ k, k < N → parseFieldDescriptor (T k).2.2.1 = some (ty0 k)) (hnm : ∀ a, a < N → ∀ b, b < N → a ≠ b → (T a).2.1 ≠ (T b).2.1) (hw : aW D dA ad adV (aGs n U ι) A s H locs) (ho : o < n) (hk : aKd[o]? = some (ci, 0)) (hci : ci < 8) (hc : vwCl[ci]? = some (C, T, N)) (k : Nat) (hkN : k < N) (ht : (aT ci)[k]? = some 2) (hl : Cond.fieldLink own index (T k).1 (T k).2.1 (T k).2.2.1 ∈ aTs) (hfin : (T k).2.2.2 = true) (hdecl : (T k).1 = own) (hd : parseFieldDescriptor (T k).2.2.1 = some ty) (hnr : narrow ty (.ref (ad q)) = .ref (ad q)) (hfit : fits ty (.ref (ad q)) = true) (hq : aP1 o k = some q) (hU : U'.contains (o, k) = false) (hU2 : ∀ x y, ¬ (x = o ∧ y = k) → U'.contains (x, y) = U.contains (x, y)) (hdg : decode cc pc = .ok (.putfield index, 3))
    (kk : ∀ (H1 : Heap) (locs1 : List Loc), aW D dA ad adV (aGs n U' ι) A s H1 locs1 → W p l e R s m args below meth c H1 locs1 cells slots Q (F0 m (pc + 3) ls rest)) : W p l e R s m args below meth c H locs cells slots Q (F0 m pc ls (.ref (ad q) :: .ref (ad o) :: rest)) := by
  obtain ⟨⟨hx, hb, -, hown, hts⟩, -, -⟩ := X
  obtain ⟨hK, hP, hD, hS, hA, hE⟩ := hw
  have hko : (aK (aGs n U ι))[o]? = some (ci, 0) := aGs_k ho hk
  refine va_putF hx hb hts hin ty0 hty hnm hown hK hP hD hS o ((aWs_get hko).trans (by rw [aCq_o hci])) hc k hkN (hts _ hl) (fun _ h9 => h9) hfin hin2 hdecl hd hnr hfit (by rw [aFs_len]; exact (List.getElem?_eq_some_iff.mp ht).1) hdg (fun H1 locs1 hP1 hD1 hS1 => ?_)
  have e1 := aWs_PP (ad := ad) (dA := dA) (v := some q) hko hci ht
  have e2 : va_rf ((some q).map ad) = Value.ref (ad q) := rfl
  rw [e2, aGs_set ho hq hU hU2] at e1
  rw [e1] at hP1 hD1
  exact kk H1 locs1 ⟨hK, hP1, hD1, hS1, hA, hE⟩
/-- a reference field that is not final -/
theorem n_putp {C : String} {T : u_T} {N ci index o q : Nat} {ty : FieldType} {ty0 : Nat → FieldType} (X : aX p m c cc nL s args aTs own meth ret) (hin : ∀ w ∈ u_ws C T N, w ∈ aTs) (hty : ∀ k, k < N → parseFieldDescriptor (T k).2.2.1 = some (ty0 k)) (hnm : ∀ a, a < N → ∀ b, b < N → a ≠ b → (T a).2.1 ≠ (T b).2.1) (hw : aW D dA ad adV (aGs n U ι) A s H locs) (ho : o < n) (hk : aKd[o]? = some (ci, 0)) (hci : ci < 8) (hc : vwCl[ci]? = some (C, T, N)) (k : Nat) (hkN : k < N) (ht : (aT ci)[k]? = some 2) (hl : Cond.fieldLink own index (T k).1 (T k).2.1 (T k).2.2.1 ∈ aTs) (hfin : (T k).2.2.2 = false) (hd : parseFieldDescriptor (T k).2.2.1 = some ty) (hnr : narrow ty (.ref (ad q)) = .ref (ad q)) (hfit : fits ty (.ref (ad q)) = true) (hq : aP1 o k = some q) (hU : U'.contains (o, k) = false) (hU2 : ∀ x y, ¬ (x = o ∧ y = k) → U'.contains (x, y) = U.contains (x, y)) (hdg : decode cc pc = .ok (.putfield index, 3))
    (kk : ∀ (H1 : Heap) (locs1 : List Loc), aW D dA ad adV (aGs n U' ι) A s H1 locs1 → W p l e R s m args below meth c H1 locs1 cells slots Q (F0 m (pc + 3) ls rest)) : W p l e R s m args below meth c H locs cells slots Q (F0 m pc ls (.ref (ad q) :: .ref (ad o) :: rest)) := by
  refine a_putp (σ := aGs n U ι) X hin hty hnm hw (aGs_k ho hk) hci hc k hkN ht hl hfin hd hnr hfit hdg (fun H1 locs1 hw1 => kk H1 locs1 ?_)
  rw [aGs_set ho hq hU hU2] at hw1
  exact hw1
/-- past[i] = a lineup -/
theorem n_aast {nn nq o q : Nat} {i : Int32} (X : aX p m c cc nL s args aTs own meth ret) (hw : aW D dA ad adV (aGs n U ι) A s H locs) (ho : o < n) (hq9 : q < n) (hk : aKd[o]? = some (11, nn)) (hqk : aKd[q]? = some (2, nq)) (hin : vp_in i nn) {j : Nat} (hj : i.toNatClampNeg = j) (hq : aP1 o j = some q) (hU : U'.contains (o, j) = false) (hU2 : ∀ x y, ¬ (x = o ∧ y = j) → U'.contains (x, y) = U.contains (x, y)) (hdg : decode cc pc = .ok (.aastore, 1))
    (kk : ∀ (H1 : Heap) (locs1 : List Loc), aW D dA ad adV (aGs n U' ι) A s H1 locs1 → W p l e R s m args below meth c H1 locs1 cells slots Q (F0 m (pc + 1) ls rest)) : W p l e R s m args below meth c H locs cells slots Q (F0 m pc ls (.ref (ad q) :: .int i :: .ref (ad o) :: rest)) := by
  refine a_aast (σ := aGs n U ι) X hw (aGs_k ho hk) (aGs_k hq9 hqk) hin hj hdg (fun H1 locs1 hw1 => kk H1 locs1 ?_)
  rw [aGs_set ho hq hU hU2] at hw1
  exact hw1
end NR
