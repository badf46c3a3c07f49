/-! a formula, on both sides -/
def enc6 (q : Nat × Nat) : Int32 := nI (q.1 * 128 + q.2)
theorem enc7_app : ∀ F G : List (Nat × Nat), enc7 (F ++ G) = enc7 F ++ enc7 G := by
  intro F
  induction F with
  | nil => intro G; rfl
  | cons q F ih =>
    intro G
    rw [List.cons_append]
    by_cases h : q.1 < 4
    · rw [enc7_leaf h, enc7_leaf h, ih]; rfl
    · rw [enc7_op h, enc7_op h, ih]; rfl
def FR (ι κ : iS) (F : List (Nat × Nat)) : Prop := gI ι 21 2 = nI F.length ∧ (∀ j, j < F.length → gI ι 22 j = enc6 (F.getD j (0, 0))) ∧ gI κ 109 13 = nI (enc7 F).length ∧ (∀ i, i < (enc7 F).length → gI κ 113 (123 + i) = (enc7 F).getD i 0) ∧ ∀ i, (enc7 F).length ≤ i → i < 760 → gI κ 113 (123 + i) = 0
theorem FR_cg {ι ι' κ κ' : iS} {F : List (Nat × Nat)} (h : FR ι κ F) (h1 : ∀ o i, o = 21 ∨ o = 22 → gI ι' o i = gI ι o i) (h2 : gI κ' 109 13 = gI κ 109 13) (h3 : ∀ i, 123 ≤ i → gI κ' 113 i = gI κ 113 i) : FR ι' κ' F :=
  ⟨(h1 _ _ (Or.inl rfl)).trans h.1, fun j hj => (h1 _ _ (Or.inr rfl)).trans (h.2.1 j hj), h2.trans h.2.2.1, fun i hi => (h3 _ (by omega)).trans (h.2.2.2.1 i hi), fun i h4 h5 => (h3 _ (by omega)).trans (h.2.2.2.2 i h4 h5)⟩
theorem enc6_or {a c : Nat} (ha : a < 8) (hc : c < 128) : (nI a <<< ((7 : Int32) &&& 31)) ||| nI c = nI (a * 128 + c) := by
  have e1 : nI a <<< ((7 : Int32) &&& 31) = nI (a * 2 ^ 7) := pk_shlN (n := a) ((7 : Int32) &&& 31) 7 (by decide) (by omega)
  rw [e1, nI_or]
  have e2 := Nat.two_pow_add_eq_or_of_lt (i := 7) (b := c) (by omega) a
  rw [show a * 2 ^ 7 = 2 ^ 7 * a by omega, ← e2]
theorem d_add6 {ι : iS} {c a q : Nat} (hc : c < 500) (h : gI ι 21 2 = nI c) (ha : a < 8) (hq : q < 128) : m_X1_add (nI a) (nI q) ι = some (pI (pI ι 22 c (nI (a * 128 + q))) 21 2 (nI (c + 1))) := by
  unfold m_X1_add
  rw [h, if_neg (show ¬ (500 : Int32) ≤ nI c from nI_ge (a := c) (b := 500) (by omega) (by omega)), if_pos (aIn_nI (by omega) (by omega)), nI_clamp (by omega), enc6_or ha hq, gI_p2 _ _ (by omega), h, nI_1]
theorem d_add_any {ι : iS} {c : Nat} (hc : c ≤ 500) (h : gI ι 21 2 = nI c) (x y : Int32) : ∃ ι' c', m_X1_add x y ι = some ι' ∧ c' ≤ 500 ∧ gI ι' 21 2 = nI c' ∧ DW ι ι' ∧ ∀ i, gI ι' 11 i = gI ι 11 i := by
  unfold m_X1_add
  by_cases q : c = 500
  · exact ⟨ι, c, by rw [h, if_pos (show (500 : Int32) ≤ nI c by rw [q]; decide)], hc, h, DW.rf ι, fun _ => rfl⟩
  · refine ⟨pI (pI ι 22 c ((x <<< ((7 : Int32) &&& 31)) ||| y)) 21 2 (nI (c + 1)), c + 1, ?_, by omega, gI_p1 _ _ _ _, ((DW.rf ι).pI _ (by omega)).pI _ (by omega), fun i => by rw [gI_p2 _ _ (by omega), gI_p2 _ _ (by omega)]⟩
    rw [h, if_neg (show ¬ (500 : Int32) ≤ nI c from nI_ge (a := c) (b := 500) (by omega) (by omega)), if_pos (aIn_nI (by omega) (by omega)), nI_clamp (by omega), gI_p2 _ _ (by omega), h, nI_1]
theorem m_tells_y {κ : iS} {c : Nat} (h6 : gI κ 109 6 = 0) (hc : c < 760) (h : gI κ 109 13 = nI c) (x : Int32) : m_X7_tells x κ = some (pI (pI κ 113 (123 + c) x) 109 13 (nI (c + 1))) := by
  unfold m_X7_tells
  rw [m_fine_y h6, Option.bind_some]
  dsimp only
  rw [if_neg i10, h, show (123 : Int32) + nI c = nI (123 + c) from nI_add 123 c, if_pos (aIn_nI (by omega) (by omega)), nI_clamp (by omega), gI_p2 _ _ (by omega), h, nI_1]
theorem m_tells_d {κ : iS} (h6 : ¬ gI κ 109 6 = 0) (x : Int32) : m_X7_tells x κ = some κ := by
  unfold m_X7_tells
  rw [m_fine_n h6, Option.bind_some]
  rfl
theorem getD_app1 {α : Type} {l : List α} {x d : α} {i : Nat} (h : i < l.length) : (l ++ [x]).getD i d = l.getD i d := by
  rw [List.getD_eq_getElem?_getD, List.getD_eq_getElem?_getD, List.getElem?_append_left h]
theorem getD_app2 {α : Type} {l : List α} {x d : α} : (l ++ [x]).getD l.length d = x := by
  rw [List.getD_eq_getElem?_getD, List.getElem?_append_right (Nat.le_refl _), Nat.sub_self]
  rfl
/-- a leaf is told -/
theorem FR_leaf {ι κ : iS} {F : List (Nat × Nat)} {q : Nat × Nat} (h : FR ι κ F) (h6 : gI κ 109 6 = 0) (hq1 : q.1 < 4) (hq2 : q.2 < 128) (hF : F.length < 500) (hE : (enc7 F).length + 2 ≤ 760) : ∃ ι' κ1 κ2, m_X1_add (nI q.1) (nI q.2) ι = some ι' ∧ m_X7_tells (nI (q.1 + 1)) κ = some κ1 ∧ m_X7_tells (nI q.2) κ1 = some κ2 ∧ FR ι' κ2 (F ++ [q]) ∧ (∀ o i, o ≠ 21 → o ≠ 22 → gI ι' o i = gI ι o i) ∧ gJ ι' = gJ ι ∧ gP ι' = gP ι ∧ (∀ o i, ¬ (o = 109 ∧ i = 13) → ¬ (o = 113 ∧ 123 ≤ i) → gI κ2 o i = gI κ o i) ∧ gJ κ2 = gJ κ ∧ gP κ2 = gP κ := by
  obtain ⟨f1, f2, f3, f4, f5⟩ := h
  have e7 : (enc7 (F ++ [q])).length = (enc7 F).length + 2 := by rw [enc7_app, enc7_leaf hq1]; simp [enc7]
  have ee : enc7 (F ++ [q]) = (enc7 F ++ [nI (q.1 + 1)]) ++ [nI q.2] := by rw [enc7_app, enc7_leaf hq1]; simp [enc7]
  refine ⟨_, _, _, d_add6 hF f1 (by omega) hq2, m_tells_y h6 (by omega) f3 _, m_tells_y (by rw [gI_p2 _ _ (by omega), gI_p2 _ _ (by omega)]; exact h6) (c := (enc7 F).length + 1) (by omega) (gI_p1 _ _ _ _) _, ⟨?_, fun j hj => ?_, ?_, fun i hi => ?_, fun i h1 h2 => ?_⟩, fun o i h1 h2 => ?_, rfl, rfl, fun o i h1 h2 => ?_, rfl, rfl⟩
  · rw [gI_p1, List.length_append]; rfl
  · rw [List.length_append] at hj
    have hj : j < F.length + 1 := hj
    rw [gI_p2 _ _ (by omega)]
    by_cases z : j = F.length
    · subst z
      rw [gI_p1, getD_app2]
      rfl
    · rw [gI_p2 _ _ (by omega), getD_app1 (by omega)]
      exact f2 j (by omega)
  · rw [gI_p1, e7]
  · rw [e7] at hi
    rw [gI_p2 _ _ (by omega), ee]
    by_cases z : i = (enc7 F).length + 1
    · subst z
      rw [gI_p1]
      have := getD_app2 (l := enc7 F ++ [nI (q.1 + 1)]) (x := nI q.2) (d := 0)
      rw [List.length_append] at this
      exact this.symm
    · rw [gI_p2 _ _ (by omega), gI_p2 _ _ (by omega), getD_app1 (by rw [List.length_append]; show i < (enc7 F).length + 1; omega)]
      by_cases y : i = (enc7 F).length
      · subst y
        rw [gI_p1, getD_app2]
      · rw [gI_p2 _ _ (by omega), getD_app1 (by omega)]
        exact f4 i (by omega)
  · rw [e7] at h1
    rw [gI_p2 _ _ (by omega), gI_p2 _ _ (by omega), gI_p2 _ _ (by omega), gI_p2 _ _ (by omega)]
    exact f5 i (by omega) h2
  · rw [gI_p2 _ _ (by omega), gI_p2 _ _ (by omega)]
  · rw [gI_p2 _ _ (by omega), gI_p2 _ _ (by omega), gI_p2 _ _ (by omega), gI_p2 _ _ (by omega)]
theorem FR_op {ι κ : iS} {F : List (Nat × Nat)} {q : Nat} (h : FR ι κ F) (h6 : gI κ 109 6 = 0) (hq1 : 4 ≤ q) (hq2 : q < 8) (hF : F.length < 500) (hE : (enc7 F).length + 1 ≤ 760) : ∃ ι' κ2, m_X1_add (nI q) 0 ι = some ι' ∧ m_X7_tells (if q = 4 then 8 else nI q) κ = some κ2 ∧ FR ι' κ2 (F ++ [(q, 0)]) ∧ (∀ o i, o ≠ 21 → o ≠ 22 → gI ι' o i = gI ι o i) ∧ gJ ι' = gJ ι ∧ gP ι' = gP ι ∧ (∀ o i, ¬ (o = 109 ∧ i = 13) → ¬ (o = 113 ∧ 123 ≤ i) → gI κ2 o i = gI κ o i) ∧ gJ κ2 = gJ κ ∧ gP κ2 = gP κ := by
  obtain ⟨f1, f2, f3, f4, f5⟩ := h
  have ee : enc7 (F ++ [(q, 0)]) = enc7 F ++ [if q = 4 then 8 else nI q] := by rw [enc7_app, enc7_op (q := (q, 0)) (by omega)]; simp [enc7]
  have e7 : (enc7 (F ++ [(q, 0)])).length = (enc7 F).length + 1 := by rw [ee, List.length_append]; rfl
  refine ⟨_, _, d_add6 (q := 0) hF f1 hq2 (by omega), m_tells_y h6 (by omega) f3 _, ⟨?_, fun j hj => ?_, ?_, fun i hi => ?_, fun i h1 h2 => ?_⟩, fun o i h1 h2 => ?_, rfl, rfl, fun o i h1 h2 => ?_, rfl, rfl⟩
  · rw [gI_p1, List.length_append]; rfl
  · rw [List.length_append] at hj
    have hj : j < F.length + 1 := hj
    rw [gI_p2 _ _ (by omega)]
    by_cases z : j = F.length
    · subst z
      rw [gI_p1, getD_app2]
      rfl
    · rw [gI_p2 _ _ (by omega), getD_app1 (by omega)]
      exact f2 j (by omega)
  · rw [gI_p1, e7]
  · rw [e7] at hi
    rw [gI_p2 _ _ (by omega), ee]
    by_cases y : i = (enc7 F).length
    · subst y
      rw [gI_p1, getD_app2]
    · rw [gI_p2 _ _ (by omega), getD_app1 (by omega)]
      exact f4 i (by omega)
  · rw [e7] at h1
    rw [gI_p2 _ _ (by omega), gI_p2 _ _ (by omega)]
    exact f5 i (by omega) h2
  · rw [gI_p2 _ _ (by omega), gI_p2 _ _ (by omega)]
  · rw [gI_p2 _ _ (by omega), gI_p2 _ _ (by omega)]
/-- a piece of a formula leaves one more on the stack, and needs m more at most -/
def sg (G : List (Nat × Nat)) (m : Nat) : Prop := ∀ h R, h + m ≤ 16 → rHgt (G ++ R) h = rHgt R (h + 1)
theorem sg_leaf {q : Nat × Nat} (h : q.1 < 4) : sg [q] 1 := fun x R hx => by
  show rHgt (q :: R) x = _
  rw [rHgt, if_pos h, if_pos (by omega)]
theorem sg_neg {G : List (Nat × Nat)} {m : Nat} (h : sg G m) : sg (G ++ [(4, 0)]) m := fun x R hx => by
  rw [List.append_assoc, h x _ hx]
  show rHgt ((4, 0) :: R) (x + 1) = _
  rw [rHgt, if_neg (by decide), if_pos rfl, if_pos (by omega)]
theorem sg_two {A G : List (Nat × Nat)} {m q : Nat} (hq : 4 < q) (h1 : sg A (m + 1)) (h2 : sg G m) : sg (A ++ (G ++ [(q, 0)])) (m + 1) := fun x R hx => by
  rw [List.append_assoc, h1 x _ hx, List.append_assoc, h2 (x + 1) _ (by omega)]
  show rHgt ((q, 0) :: R) (x + 1 + 1) = _
  rw [rHgt, if_neg (show ¬ (q, 0).1 < 4 by show ¬ q < 4; omega), if_neg (show ¬ (q, 0).1 = 4 by show ¬ q = 4; omega), if_pos (by omega)]
  rfl
theorem sg_up {G : List (Nat × Nat)} {m m' : Nat} (h : sg G m) (hm : m ≤ m') : sg G m' := fun x R hx => h x R (by omega)
