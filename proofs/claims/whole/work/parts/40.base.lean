/-! THE PURE SIDE: the mirrors of class and reference answer alike. First what ties their heaps. -/
theorem gI_pI (ι : iS) (o k : Nat) (v : Int32) (x y : Nat) : gI (pI ι o k v) x y = if x = o ∧ y = k then v else gI ι x y := rfl
theorem gI_pJ (ι : iS) (o k : Nat) (v : Int64) : gI (pJ ι o k v) = gI ι := rfl
theorem gI_pP (ι : iS) (o k : Nat) (v : Option Nat) : gI (pP ι o k v) = gI ι := rfl
theorem gI_rI (ι : iS) (o : Nat) (f : Nat → Int32) (x y : Nat) : gI (rI ι o f) x y = if x = o then f y else gI ι x y := by
  show (if x = o then f else gI ι x) y = _
  by_cases h : x = o <;> simp [h]
theorem gJ_pI (ι : iS) (o k : Nat) (v : Int32) : gJ (pI ι o k v) = gJ ι := rfl
theorem gJ_pJ (ι : iS) (o k : Nat) (v : Int64) (x y : Nat) : gJ (pJ ι o k v) x y = if x = o ∧ y = k then v else gJ ι x y := rfl
theorem gJ_pP (ι : iS) (o k : Nat) (v : Option Nat) : gJ (pP ι o k v) = gJ ι := rfl
theorem gJ_rI (ι : iS) (o : Nat) (f : Nat → Int32) : gJ (rI ι o f) = gJ ι := rfl
theorem gP_pI (ι : iS) (o k : Nat) (v : Int32) : gP (pI ι o k v) = gP ι := rfl
theorem gP_pJ (ι : iS) (o k : Nat) (v : Int64) : gP (pJ ι o k v) = gP ι := rfl
theorem gP_pP (ι : iS) (o k : Nat) (v : Option Nat) (x y : Nat) : gP (pP ι o k v) x y = if x = o ∧ y = k then v else gP ι x y := rfl
theorem gP_rI (ι : iS) (o : Nat) (f : Nat → Int32) : gP (rI ι o f) = gP ι := rfl
theorem aIn_nI {n N : Nat} (h : n < N) (hN : N < 2 ^ 31) : aIn (nI n) N = true := by
  unfold aIn
  rw [nI_toInt (by omega)]
  exact decide_eq_true ⟨by omega, by omega⟩
/-- what no promise rests on: places that every call lays anew before it reads them -/
def scr (o k : Nat) : Bool := (decide (o = 0) && !decide (k = 1) && !decide (k = 5) && !decide (k = 6)) || (decide (11 ≤ o) && decide (o ≤ 28)) || (decide (31 ≤ o) && decide (o ≤ 36)) || (decide (o = 109) && !decide (k = 2) && !decide (k = 5) && !decide (k = 12)) || decide (o = 113) || decide (123 ≤ o)
def Sm (ι ι' : iS) : Prop := (∀ o k, scr o k = false → gI ι' o k = gI ι o k) ∧ ∀ k, gP ι' 29 k = gP ι 29 k
theorem Sm.rf (ι : iS) : Sm ι ι := ⟨fun _ _ _ => rfl, fun _ => rfl⟩
theorem Sm.tr {a b c : iS} (h1 : Sm a b) (h2 : Sm b c) : Sm a c := ⟨fun o k h => (h2.1 o k h).trans (h1.1 o k h), fun k => (h2.2 k).trans (h1.2 k)⟩
theorem Sm.pI {a b : iS} {o k : Nat} {v : Int32} (h : Sm a b) (hs : scr o k = true) : Sm a (pI b o k v) := ⟨fun x y q => by
  rw [gI_pI, if_neg (fun z => by rw [z.1, z.2, hs] at q; cases q)]
  exact h.1 x y q, h.2⟩
theorem Sm.pJ {a b : iS} {o k : Nat} {v : Int64} (h : Sm a b) : Sm a (pJ b o k v) := ⟨h.1, h.2⟩
theorem Sm.pP {a b : iS} {o k : Nat} {v : Option Nat} (h : Sm a b) (hs : o ≠ 29) : Sm a (pP b o k v) := ⟨h.1, fun y => by
  rw [gP_pP, if_neg (fun z => hs z.1.symm)]
  exact h.2 y⟩
theorem Sm.rI {a b : iS} {o : Nat} {f : Nat → Int32} (h : Sm a b) (hs : ∀ k, scr o k = true) : Sm a (rI b o f) := ⟨fun x y q => by
  rw [gI_rI, if_neg (fun z => by rw [z, hs y] at q; cases q)]
  exact h.1 x y q, h.2⟩
/-! a formula: its steps in the order in which they are done: (0, number), (1, trait) value, (2, trait) off, (3, trait) weight, (4, 0) negate, (5, 0) add, (6, 0) subtract, (7, 0) multiply -/
def rOff (r : Nat → Int32) (p t : Nat) (g : Int32) : Int32 := if r (89 + t) = -1 then 0 else if 0 ≤ r (9 + 5 * p + t) - (if g = 0 then r (89 + t) else r (9 + t)) then r (9 + 5 * p + t) - (if g = 0 then r (89 + t) else r (9 + t)) else -(r (9 + 5 * p + t) - (if g = 0 then r (89 + t) else r (9 + t)))
def rLeaf (r : Nat → Int32) (p : Nat) (g : Int32) (q : Nat × Nat) : Int64 := (if q.1 = 0 then nI q.2 else if q.1 = 1 then r (9 + 5 * p + q.2) else if q.1 = 2 then rOff r p q.2 g else r (94 + q.2)).toInt64
def hold (x : Int64) : Int64 := if x ≤ 1000000 then if -1000000 ≤ x then x else -1000000 else 1000000
def rJoin (k : Nat) (a b : Int64) : Int64 := hold (if k = 5 then a + b else if k = 6 then a - b else a * b)
def rStep (r : Nat → Int32) (p : Nat) (g : Int32) (st : List Int64) (q : Nat × Nat) : List Int64 :=
  if q.1 < 4 then rLeaf r p g q :: st else if q.1 = 4 then match st with | a :: s => -a :: s | [] => [] else match st with | b :: a :: s => rJoin q.1 a b :: s | s => s
def rRun (r : Nat → Int32) (p : Nat) (g : Int32) (F : List (Nat × Nat)) : Int64 := (F.foldl (rStep r p g) []).headD 0
/-- heights of the stack: from h, by F, to the answer, never under what is needed, never above 16 -/
def rHgt : List (Nat × Nat) → Nat → Option Nat
  | [], h => some h
  | q :: F, h => if q.1 < 4 then if h < 16 then rHgt F (h + 1) else none else if q.1 = 4 then if 1 ≤ h then rHgt F h else none else if 2 ≤ h then rHgt F (h - 1) else none
def rPlain (r : Nat → Int32) (p : Nat) (g : Int32) : Nat → Int64
  | 0 => 0
  | t + 1 => rPlain r p g t + (r (94 + t) * (9 - rOff r p t g)).toInt64
/-- how well one matches, by a row of the reference -/
def mt (r : Nat → Int32) (T : Nat) (F : List (Nat × Nat)) (p : Nat) (g : Int32) : Int32 :=
  if (if F = [] then rPlain r p g T else rRun r p g F) < 0 then 0 else if (if F = [] then rPlain r p g T else rRun r p g F) ≤ 99 then (if F = [] then rPlain r p g T else rRun r p g F).toInt32 else 99
def okQ (T : Nat) (q : Nat × Nat) : Prop := (q.1 < 8 ∧ (4 ≤ q.1 → q.2 = 0)) ∧ (q.1 = 0 → q.2 < 100) ∧ (1 ≤ q.1 → q.1 < 4 → q.2 < T)
def enc7 : List (Nat × Nat) → List Int32
  | [] => []
  | q :: F => if q.1 < 4 then nI (q.1 + 1) :: nI q.2 :: enc7 F else (if q.1 = 4 then 8 else nI q.1) :: enc7 F
def Coded (r : Nat → Int32) (T : Nat) (F : List (Nat × Nat)) : Prop :=
  (r 8 = 0 ∧ F = []) ∨ (r 8 = 1 ∧ F ≠ [] ∧ (∀ q ∈ F, okQ T q) ∧ rHgt F 0 = some 1 ∧ (enc7 F).length ≤ 759 ∧ (∀ i, i < (enc7 F).length → r (123 + i) = (enc7 F).getD i 0) ∧ r (123 + (enc7 F).length) = 0)
def setLo (i : Nat) : Nat := if i = 3 then 1 else 0
def setHi (i : Nat) : Nat := [5, 120, 20, 99].getD i 0
/-- a lineup of the class (its nine cells) and a row of the reference: all but the matches -/
def LR0 (B : Nat → Nat → Int32) (r : Nat → Int32) (T P S : Nat) : Prop :=
  ((1 ≤ T ∧ T ≤ 5) ∧ (1 ≤ P ∧ P ≤ 16) ∧ S ≤ 8) ∧ ((B 0 0 = nI T ∧ r 0 = nI T) ∧ (B 0 1 = nI P ∧ r 1 = nI (P - 1)) ∧ (B 0 2 = nI S ∧ r 3 = nI S)) ∧
  (∀ i, i < 4 → B 4 i = r (4 + i) ∧ ∃ n, r (4 + i) = nI n ∧ setLo i ≤ n ∧ n ≤ setHi i) ∧
  (∀ p, p < P → ∀ t, t < T → B 1 (5 * p + t) = r (9 + 5 * p + t) ∧ ∃ n, r (9 + 5 * p + t) = nI n ∧ n ≤ 9) ∧
  (∀ t, t < 5 → B 2 t = r (89 + t) ∧ B 3 t = r (94 + t) ∧ ((r (89 + t) = -1 ∧ r (94 + t) = 0) ∨ ∃ v w, r (89 + t) = nI v ∧ v ≤ 9 ∧ r (94 + t) = nI w ∧ 1 ≤ w ∧ w ≤ 9)) ∧
  (∀ k, k < S → B 5 k = r (99 + k) ∧ ∃ p, r (99 + k) = nI p ∧ p < P) ∧
  (∀ k l, k < S → l < S → r (99 + k) = r (99 + l) → k = l) ∧
  (∀ p, p < 16 → B 6 p = r (107 + p) ∧ ∃ c, r (107 + p) = nI c ∧ c ≤ 999 ∧ (P ≤ p → c = 0))
def LR (B : Nat → Nat → Int32) (r : Nat → Int32) : Prop := ∃ (T P S : Nat) (F : List (Nat × Nat)), LR0 B r T P S ∧ Coded r T F ∧ ∀ p, p < P → B 7 p = mt r T F p 0 ∧ B 8 p = mt r T F p 1
def blk (ι : iS) (o : Nat) : Nat → Nat → Int32 := fun j k => if j ≤ 8 then gI ι (o + j) k else 0
/-- one byte, as the class keeps it and as the reference does -/
def byteR (x y : Int32) : Prop := ∃ b : Nat, b < 256 ∧ y = nI b ∧ x = if b < 128 then nI b else nI b - 256
def pastR (ι : iS) : Prop := (∀ k, k < 8 → ∃ i, i < 8 ∧ gP ι 29 k = some (37 + 9 * i)) ∧ ∀ k l, k < 8 → l < 8 → gP ι 29 k = gP ι 29 l → k = l
/-- WHAT HOLDS BETWEEN TWO CALLS -/
def Inv (ι : iS) : Prop :=
  LR (blk ι 2) (gI ι 112) ∧
  (∃ n, n ≤ 500 ∧ gI ι 0 1 = nI n ∧ gI ι 109 2 = nI n ∧ ∀ k, k < n → byteR (gI ι 1 k) (gI ι 111 k)) ∧
  (pastR ι ∧ ∃ a, a ≤ 8 ∧ gI ι 0 5 = nI a ∧ gI ι 109 12 = nI a ∧ ∀ k, k < a → ∀ o, gP ι 29 k = some o → LR (blk ι o) (gI ι (115 + k))) ∧
  gI ι 0 6 = gI ι 109 5 ∧ ∀ k, k < 3 → gI ι 30 k = gI ι 110 k
theorem scr_no {o k : Nat} (h : (o = 0 ∧ (k = 1 ∨ k = 5 ∨ k = 6)) ∨ (1 ≤ o ∧ o ≤ 10) ∨ o = 29 ∨ o = 30 ∨ (37 ≤ o ∧ o ≤ 108) ∨ (o = 109 ∧ (k = 2 ∨ k = 5 ∨ k = 12)) ∨ (110 ≤ o ∧ o ≤ 112) ∨ (114 ≤ o ∧ o ≤ 122)) : scr o k = false := by
  unfold scr
  simp only [Bool.or_eq_false_iff, Bool.and_eq_false_iff, Bool.not_eq_false', decide_eq_false_iff_not, decide_eq_true_eq]
  omega
theorem blk_sm {ι ι' : iS} (h : Sm ι ι') {o : Nat} (ho : o = 2 ∨ (37 ≤ o ∧ o ≤ 100)) : blk ι' o = blk ι o := by
  funext j k
  unfold blk
  by_cases hj : j ≤ 8
  · rw [if_pos hj, if_pos hj]
    exact h.1 _ _ (scr_no (by omega))
  · rw [if_neg hj, if_neg hj]
theorem pastR_le {ι : iS} (h : pastR ι) {k o : Nat} (hk : k < 8) (ho : gP ι 29 k = some o) : ∃ i, i < 8 ∧ o = 37 + 9 * i := by
  obtain ⟨i, hi, e⟩ := h.1 k hk
  exact ⟨i, hi, Option.some.inj (ho.symm.trans e)⟩
theorem pastR_sm {ι ι' : iS} (h : ∀ k, gP ι' 29 k = gP ι 29 k) (hp : pastR ι) : pastR ι' := by
  refine ⟨fun k hk => ?_, fun k l hk hl e => ?_⟩
  · rw [h]; exact hp.1 k hk
  · rw [h, h] at e; exact hp.2 k l hk hl e
theorem Inv_sm {ι ι' : iS} (h : Sm ι ι') (hI : Inv ι) : Inv ι' := by
  obtain ⟨h1, ⟨n, hn, h2, h3, h4⟩, ⟨hp, a, ha, h5, h6, h7⟩, h8, h9⟩ := hI
  have row : ∀ o, (110 ≤ o ∧ o ≤ 112) ∨ (114 ≤ o ∧ o ≤ 122) → gI ι' o = gI ι o := fun o ho => funext fun k => h.1 _ _ (scr_no (by omega))
  refine ⟨?_, ⟨n, hn, ?_, ?_, fun k hk => ?_⟩, ⟨pastR_sm h.2 hp, a, ha, ?_, ?_, fun k hk o ho => ?_⟩, ?_, fun k hk => ?_⟩
  · rw [blk_sm h (Or.inl rfl), row 112 (by omega)]; exact h1
  · rw [h.1 0 1 (scr_no (by omega))]; exact h2
  · rw [h.1 109 2 (scr_no (by omega))]; exact h3
  · rw [h.1 1 k (scr_no (by omega)), row 111 (by omega)]; exact h4 k hk
  · rw [h.1 0 5 (scr_no (by omega))]; exact h5
  · rw [h.1 109 12 (scr_no (by omega))]; exact h6
  · rw [h.2 k] at ho
    obtain ⟨i, hi, e⟩ := pastR_le hp (by omega) ho
    rw [blk_sm h (Or.inr (by omega)), row (115 + k) (by omega)]
    exact h7 k hk o ho
  · rw [h.1 0 6 (scr_no (by omega)), h.1 109 5 (scr_no (by omega))]; exact h8
  · rw [h.1 30 k (scr_no (by omega)), row 110 (by omega)]; exact h9 k hk
