/-! THE HEAP ONCE BOTH OBJECTS ARE MADE: 0 the desk, 1 its tape, 2 now, 11 the reader, 12 its draft, 21 formula, 24 tokens, 28 the first bytes, 29 past, 30 refused, 31 guilty, 33 innocent, 35 chooser, 37 + 9 k the rows of past; a lineup o has its eight arrays at o + 1 .. o + 8; 109 the reference, 110 refused, 111 fed, 112 now, 113 told, 114 past, 115 .. 122 its rows, 123 stack, 124 middle; 125 the law's out. Kinds and final references are constants. -/
abbrev iS : Type := (Nat → Nat → Int32) × (Nat → Nat → Int64) × (Nat → Nat → Option Nat)
def gI (ι : iS) : Nat → Nat → Int32 := ι.1
def gJ (ι : iS) : Nat → Nat → Int64 := ι.2.1
def gP (ι : iS) : Nat → Nat → Option Nat := ι.2.2
def pI (ι : iS) (o k : Nat) (v : Int32) : iS := (a2 (gI ι) o k v, gJ ι, gP ι)
def pJ (ι : iS) (o k : Nat) (v : Int64) : iS := (gI ι, a2 (gJ ι) o k v, gP ι)
def pP (ι : iS) (o k : Nat) (v : Option Nat) : iS := (gI ι, gJ ι, a2 (gP ι) o k v)
def rI (ι : iS) (o : Nat) (f : Nat → Int32) : iS := (fun x => if x = o then f else gI ι x, gJ ι, gP ι)
def aKd : List (Nat × Nat) := [(6, 0), (8, 500), (2, 0), (9, 80), (9, 5), (9, 5), (9, 4), (9, 8), (9, 16), (9, 16), (9, 16), (3, 0), (2, 0), (9, 80), (9, 5), (9, 5), (9, 4), (9, 8), (9, 16), (9, 16), (9, 16), (1, 0), (9, 500), (10, 16), (4, 0), (9, 501), (9, 501), (9, 501), (8, 0), (11, 8), (9, 3), (5, 0), (9, 8), (5, 0), (9, 8), (0, 0), (9, 16), (2, 0), (9, 80), (9, 5), (9, 5), (9, 4), (9, 8), (9, 16), (9, 16), (9, 16), (2, 0), (9, 80), (9, 5), (9, 5), (9, 4), (9, 8), (9, 16), (9, 16), (9, 16), (2, 0), (9, 80), (9, 5), (9, 5), (9, 4), (9, 8), (9, 16), (9, 16), (9, 16), (2, 0), (9, 80), (9, 5), (9, 5), (9, 4), (9, 8), (9, 16), (9, 16), (9, 16), (2, 0), (9, 80), (9, 5), (9, 5), (9, 4), (9, 8), (9, 16), (9, 16), (9, 16), (2, 0), (9, 80), (9, 5), (9, 5), (9, 4), (9, 8), (9, 16), (9, 16), (9, 16), (2, 0), (9, 80), (9, 5), (9, 5), (9, 4), (9, 8), (9, 16), (9, 16), (9, 16), (2, 0), (9, 80), (9, 5), (9, 5), (9, 4), (9, 8), (9, 16), (9, 16), (9, 16), (7, 0), (9, 3), (9, 500), (9, 883), (9, 883), (12, 8), (9, 883), (9, 883), (9, 883), (9, 883), (9, 883), (9, 883), (9, 883), (9, 883), (10, 760), (9, 8), (10, 1)]
def aPt : List (List (Option Nat)) := [[some 1, none, some 2, some 11, some 29, none, none, some 30, some 31, some 33, some 35], [], [none, none, none, some 3, some 4, some 5, some 6, some 7, some 8, some 9, some 10], [], [], [], [], [], [], [], [], [some 12, some 21, none, some 24], [none, none, none, some 13, some 14, some 15, some 16, some 17, some 18, some 19, some 20], [], [], [], [], [], [], [], [], [some 22, some 23], [], [], [some 25, some 26, some 27], [], [], [], [], [], [], [none, some 32], [], [none, some 34], [], [none, none, none, none, none, some 36], [], [none, none, none, some 38, some 39, some 40, some 41, some 42, some 43, some 44, some 45], [], [], [], [], [], [], [], [], [none, none, none, some 47, some 48, some 49, some 50, some 51, some 52, some 53, some 54], [], [], [], [], [], [], [], [], [none, none, none, some 56, some 57, some 58, some 59, some 60, some 61, some 62, some 63], [], [], [], [], [], [], [], [], [none, none, none, some 65, some 66, some 67, some 68, some 69, some 70, some 71, some 72], [], [], [], [], [], [], [], [], [none, none, none, some 74, some 75, some 76, some 77, some 78, some 79, some 80, some 81], [], [], [], [], [], [], [], [], [none, none, none, some 83, some 84, some 85, some 86, some 87, some 88, some 89, some 90], [], [], [], [], [], [], [], [], [none, none, none, some 92, some 93, some 94, some 95, some 96, some 97, some 98, some 99], [], [], [], [], [], [], [], [], [none, none, none, some 101, some 102, some 103, some 104, some 105, some 106, some 107, some 108], [], [], [], [], [], [], [], [], [none, some 110, none, none, none, none, none, none, some 111, some 112, some 113, some 114, none, none, none, none, some 123, some 124], [], [], [], [], [some 115, some 116, some 117, some 118, some 119, some 120, some 121, some 122], [], [], [], [], [], [], [], [], [], [], []]
def aP0 (o k : Nat) : Option Nat := (aPt.getD o []).getD k none
/-- the references that change: past's rows, the tokens' bytes -/
def aMu (o k : Nat) : Bool := decide (o = 29) || (decide (o = 24) && decide (k = 4))
def aG (ι : iS) : aS := (aKd, gI ι, gJ ι, fun o k => if aMu o k = true then gP ι o k else aP0 o k)
theorem aG_PI (ι : iS) (o k : Nat) (v : Int32) : aPI (aG ι) o k v = aG (pI ι o k v) := rfl
theorem aG_PJ (ι : iS) (o k : Nat) (v : Int64) : aPJ (aG ι) o k v = aG (pJ ι o k v) := rfl
theorem aG_RI (ι : iS) (o : Nat) (f : Nat → Int32) : aRI (aG ι) o f = aG (rI ι o f) := rfl
theorem aG_PP (ι : iS) {o k : Nat} (v : Option Nat) (h : aMu o k = true) : aPP (aG ι) o k v = aG (pP ι o k v) := by
  have e : aP (aPP (aG ι) o k v) = aP (aG (pP ι o k v)) := by
    funext x y
    show (if x = o ∧ y = k then v else if aMu x y = true then gP ι x y else aP0 x y) = (if aMu x y = true then (if x = o ∧ y = k then v else gP ι x y) else aP0 x y)
    by_cases hx : x = o ∧ y = k
    · obtain ⟨rfl, rfl⟩ := hx
      simp [h]
    · simp [hx]
  unfold aPP aG
  unfold aPP aG at e
  simp only [aK, aI, aJ, aP, gI, gJ] at e ⊢
  rw [e]
  rfl
theorem aG_P {ι : iS} {o k q : Nat} (h : aMu o k = false) (h2 : aP0 o k = some q) : aP (aG ι) o k = some q := by
  show (if aMu o k = true then gP ι o k else aP0 o k) = some q
  rw [h, h2]
  rfl
theorem aG_Pm {ι : iS} {o k q : Nat} (h : aMu o k = true) (h2 : gP ι o k = some q) : aP (aG ι) o k = some q := by
  show (if aMu o k = true then gP ι o k else aP0 o k) = some q
  rw [if_pos h, h2]
/-- o is a lineup -/
def aLin (o : Nat) : Bool := decide (aKd[o]? = some (2, 0)) && (decide (aKd[o + 1]? = some (9, 80)) && (decide (aKd[o + 2]? = some (9, 5)) && (decide (aKd[o + 3]? = some (9, 5)) && (decide (aKd[o + 4]? = some (9, 4)) && (decide (aKd[o + 5]? = some (9, 8)) && (decide (aKd[o + 6]? = some (9, 16)) && (decide (aKd[o + 7]? = some (9, 16)) && (decide (aKd[o + 8]? = some (9, 16)) && ((List.range 8).all (fun j => decide (aP0 o (3 + j) = some (o + 1 + j))) && (decide (o ≠ 29) && decide (o ≠ 24)))))))))))
theorem aLin_k {o : Nat} (h : aLin o = true) : aKd[o]? = some (2, 0) ∧ aKd[o + 1]? = some (9, 80) ∧ aKd[o + 2]? = some (9, 5) ∧ aKd[o + 3]? = some (9, 5) ∧ aKd[o + 4]? = some (9, 4) ∧ aKd[o + 5]? = some (9, 8) ∧ aKd[o + 6]? = some (9, 16) ∧ aKd[o + 7]? = some (9, 16) ∧ aKd[o + 8]? = some (9, 16) := by
  simp only [aLin, Bool.and_eq_true, decide_eq_true_eq] at h
  exact ⟨h.1, h.2.1, h.2.2.1, h.2.2.2.1, h.2.2.2.2.1, h.2.2.2.2.2.1, h.2.2.2.2.2.2.1, h.2.2.2.2.2.2.2.1, h.2.2.2.2.2.2.2.2.1⟩
theorem aLin_p {o : Nat} (h : aLin o = true) (ι : iS) (j : Nat) (hj : j < 8) : aP (aG ι) o (3 + j) = some (o + 1 + j) := by
  simp only [aLin, Bool.and_eq_true, decide_eq_true_eq, List.all_eq_true, List.mem_range] at h
  refine aG_P ?_ (h.2.2.2.2.2.2.2.2.2.1 j hj)
  have h1 : o ≠ 29 := h.2.2.2.2.2.2.2.2.2.2.1
  have h2 : o ≠ 24 := h.2.2.2.2.2.2.2.2.2.2.2
  simp [aMu, h1, h2]
/-- o is a witness -/
def aWit (o : Nat) : Bool := decide (o = 31) || decide (o = 33)
theorem aWit_k {o : Nat} (h : aWit o = true) : aKd[o]? = some (5, 0) ∧ aKd[o + 1]? = some (9, 8) := by
  simp only [aWit, Bool.or_eq_true, decide_eq_true_eq] at h
  rcases h with rfl | rfl <;> exact ⟨rfl, rfl⟩
theorem aWit_p {o : Nat} (h : aWit o = true) (ι : iS) : aP (aG ι) o 1 = some (o + 1) := by
  simp only [aWit, Bool.or_eq_true, decide_eq_true_eq] at h
  rcases h with rfl | rfl <;> exact aG_P rfl rfl
/-- outcomes of what throws: 0 no such element, 1 argument, 2 state -/
def aEx (e : Nat) : String := if e = 0 then "java/util/NoSuchElementException" else if e = 1 then "java/lang/IllegalArgumentException" else "java/lang/IllegalStateException"
def xoi (r : (Nat × iS) ⊕ (Int32 × iS)) : (String × aS) ⊕ (Option Value × aS) := match r with
  | .inl q => .inl (aEx q.1, aG q.2)
  | .inr q => .inr (some (.int q.1), aG q.2)
def xol (r : (Nat × iS) ⊕ (Int64 × iS)) : (String × aS) ⊕ (Option Value × aS) := match r with
  | .inl q => .inl (aEx q.1, aG q.2)
  | .inr q => .inr (some (.long q.1), aG q.2)
def xov (r : (Nat × iS) ⊕ iS) : (String × aS) ⊕ (Option Value × aS) := match r with
  | .inl q => .inl (aEx q.1, aG q.2)
  | .inr q => .inr (none, aG q)
/-- steps of a hypothesis 'the mirror answers' -/
theorem h_g {α : Type} {c : Prop} [Decidable c] {x : Option α} {o : α} (h : (if c then x else none) = some o) : c ∧ x = some o := by
  by_cases hc : c
  · rw [if_pos hc] at h; exact ⟨hc, h⟩
  · rw [if_neg hc] at h; cases h
def aIn (i : Int32) (n : Nat) : Bool := decide (0 ≤ i.toInt ∧ i.toInt < n)
theorem aIn_v {i : Int32} {n : Nat} (h : aIn i n = true) : vp_in i n := vp_in_iff.mpr (of_decide_eq_true h)
theorem h_i {α : Type} {i : Int32} {n : Nat} {x : Option α} {o : α} (h : (if aIn i n = true then x else none) = some o) : vp_in i n ∧ x = some o := ⟨aIn_v (h_g h).1, (h_g h).2⟩
theorem h_t {α : Type} {c : Prop} [Decidable c] {x y : Option α} {o : α} (hc : c) (h : (if c then x else y) = some o) : x = some o := by rw [if_pos hc] at h; exact h
theorem h_f {α : Type} {c : Prop} [Decidable c] {x y : Option α} {o : α} (hc : ¬ c) (h : (if c then x else y) = some o) : y = some o := by rw [if_neg hc] at h; exact h
theorem h_b {α β : Type} {x : Option β} {f : β → Option α} {o : α} (h : x.bind f = some o) : ∃ y, x = some y ∧ f y = some o := by
  cases x with
  | none => cases h
  | some y => exact ⟨y, rfl, h⟩
theorem h_e {α : Type} {x o : α} (h : some x = some o) : o = x := (Option.some.inj h).symm
/-- every loop's measure -/
def aF : Nat := 70000
theorem zn {v : Int32} (h : v = 0 ∨ v = 1) : narrow .boolean (.int v) = .int v := by rcases h with rfl | rfl <;> decide
theorem a114 {i : Int32} (h : vp_in i 8) : (aMu 114 i.toNatClampNeg = false ∧ aP0 114 i.toNatClampNeg = some (115 + i.toNatClampNeg)) ∧ aKd[115 + i.toNatClampNeg]? = some (9, 883) := by
  have hl : i.toNatClampNeg < 8 := Nat.not_le.mp fun q => h (Or.inr q)
  generalize i.toNatClampNeg = j at hl ⊢
  rcases (show j = 0 ∨ j = 1 ∨ j = 2 ∨ j = 3 ∨ j = 4 ∨ j = 5 ∨ j = 6 ∨ j = 7 by omega) with rfl | rfl | rfl | rfl | rfl | rfl | rfl | rfl <;> decide
theorem sw_out {x : Int32} {lo : Int} {n : Nat} (hb : -2147483648 ≤ lo ∧ lo + n ≤ 2147483648) (h : ∀ k : Nat, k < n → ¬ x = Int32.ofInt (lo + k)) : x.toInt < lo ∨ lo + n - 1 < x.toInt := by
  by_cases h1 : x.toInt < lo
  · exact Or.inl h1
  · by_cases h2 : lo + n - 1 < x.toInt
    · exact Or.inr h2
    · exfalso
      refine h (x.toInt - lo).toNat (by omega) ?_
      rw [show lo + ((x.toInt - lo).toNat : Int) = x.toInt by omega]
      exact (Int32.ofInt_toInt x).symm

theorem lin2 : aLin 2 = true := by decide +kernel
theorem lin12 : aLin 12 = true := by decide +kernel
theorem lin37 : aLin 37 = true := by decide +kernel
theorem lin46 : aLin 46 = true := by decide +kernel
theorem lin55 : aLin 55 = true := by decide +kernel
theorem lin64 : aLin 64 = true := by decide +kernel
theorem lin73 : aLin 73 = true := by decide +kernel
theorem lin82 : aLin 82 = true := by decide +kernel
theorem lin91 : aLin 91 = true := by decide +kernel
theorem lin100 : aLin 100 = true := by decide +kernel
theorem wit31 : aWit 31 = true := by decide
theorem wit33 : aWit 33 = true := by decide