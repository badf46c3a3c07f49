/-! small things of both sides -/
theorem gI_p1 (ι : iS) (o k : Nat) (v : Int32) : gI (pI ι o k v) o k = v := if_pos ⟨rfl, rfl⟩
theorem gI_p2 (ι : iS) {o k x y : Nat} (v : Int32) (h : ¬ (x = o ∧ y = k)) : gI (pI ι o k v) x y = gI ι x y := if_neg h
theorem i_neg {n : Nat} (h : n < 2 ^ 30) : (nI n - 1).toInt = (n : Int) - 1 := pk_sub_toInt (a := n) (b := 1) h (by omega)
theorem i_pos {n : Nat} (h : n < 2 ^ 30) : ¬ nI n < 0 := by
  rw [Int32.lt_iff_toInt_lt, nI_toInt (by omega)]
  show ¬ ((n : Int) < 0)
  omega
theorem m_in_y {x lo hi : Int32} {ι : iS} (h1 : ¬ x < lo) (h2 : ¬ hi < x) : m_X7_in x lo hi ι = some (1, ι) := by
  unfold m_X7_in
  rw [if_neg h1, if_neg h2]
theorem m_in_n {x lo hi : Int32} {ι : iS} (h : x < lo ∨ hi < x) : m_X7_in x lo hi ι = some (0, ι) := by
  unfold m_X7_in
  by_cases h1 : x < lo
  · rw [if_pos h1]
  · rw [if_neg h1, if_pos (h.resolve_left h1)]
theorem m_in_j {j n : Nat} (h : j < n) (hn : n < 2 ^ 30) {ι : iS} : m_X7_in (nI j) 0 (nI n - 1) ι = some (1, ι) := by
  refine m_in_y (i_pos (by omega)) ?_
  rw [Int32.lt_iff_toInt_lt, i_neg hn, nI_toInt (by omega)]
  omega
theorem m_in_x {x : Int32} {n : Nat} (hn : n < 2 ^ 30) (h : x < 0 ∨ nI n ≤ x) {ι : iS} : m_X7_in x 0 (nI n - 1) ι = some (0, ι) := by
  refine m_in_n (h.imp_right fun h => ?_)
  rw [Int32.le_iff_toInt_le, nI_toInt (by omega)] at h
  rw [Int32.lt_iff_toInt_lt, i_neg hn]
  omega
theorem m_isPerson_j {ι : iS} {P j : Nat} (hr : gI ι 112 1 = nI (P - 1)) (h : j < P) (hP : P ≤ 16) : m_X7_isPerson (nI j) ι = some (1, ι) := by
  unfold m_X7_isPerson
  rw [hr, show nI (P - 1) = nI P - 1 from (pk_sub (a := P) (b := 1) (by omega)).symm, m_in_j h (by omega)]
  rfl
theorem m_isPerson_x {ι : iS} {P : Nat} {x : Int32} (hr : gI ι 112 1 = nI (P - 1)) (h : x < 0 ∨ nI P ≤ x) (hP : 1 ≤ P ∧ P ≤ 16) : m_X7_isPerson x ι = some (0, ι) := by
  unfold m_X7_isPerson
  rw [hr, show nI (P - 1) = nI P - 1 from (pk_sub (a := P) (b := 1) (by omega)).symm, m_in_x (by omega) h]
  rfl
theorem m_isTrait_j {ι : iS} {T j : Nat} (hr : gI ι 112 0 = nI T) (h : j < T) (hT : T ≤ 5) : m_X7_isTrait (nI j) ι = some (1, ι) := by
  unfold m_X7_isTrait
  rw [hr, m_in_j h (by omega)]
  rfl
theorem m_isTrait_x {ι : iS} {T : Nat} {x : Int32} (hr : gI ι 112 0 = nI T) (h : x < 0 ∨ nI T ≤ x) (hT : T ≤ 5) : m_X7_isTrait x ι = some (0, ι) := by
  unfold m_X7_isTrait
  rw [hr, m_in_x (by omega) h]
  rfl
theorem m_isPlace_j {ι : iS} {S j : Nat} (hr : gI ι 112 3 = nI S) (h : j < S) (hS : S ≤ 8) : m_X7_isPlace (nI j) ι = some (1, ι) := by
  unfold m_X7_isPlace
  rw [hr, m_in_j h (by omega)]
  rfl
theorem m_isPlace_x {ι : iS} {S : Nat} {x : Int32} (hr : gI ι 112 3 = nI S) (h : x < 0 ∨ nI S ≤ x) (hS : S ≤ 8) : m_X7_isPlace x ι = some (0, ι) := by
  unfold m_X7_isPlace
  rw [hr, m_in_x (by omega) h]
  rfl
theorem m_bad_0 {ι : iS} {c e : Int32} (h : gI ι 109 0 = 0) : m_X7_bad 0 c e ι = some (0, ι) := by
  unfold m_X7_bad
  rw [if_pos rfl, if_pos h]
theorem m_bad_1 {ι : iS} {c : Int32} {e : Nat} (h : gI ι 109 0 = 0) (hc : ¬ c = 0) (he : e < 3) : m_X7_bad 1 c (nI e) ι = some (1, pI (pI ι 109 0 c) 110 e (gI ι 110 e + 1)) := by
  unfold m_X7_bad
  rw [if_neg (by decide), if_pos h, if_pos (aIn_nI he (by omega)), if_pos (aIn_nI he (by omega)), nI_clamp (by omega)]
  rw [gI_p2 (x := 109) (y := 0) _ _ (by omega), gI_p1, if_neg hc, gI_p2 _ _ (by omega)]
theorem d_np_j {ι : iS} {P j : Nat} (hB : gI ι 2 1 = nI P) (h : j < P) (hP : P ≤ 16) : m_X6_needPerson (nI j) ι = some (.inr ι) := by
  unfold m_X6_needPerson
  rw [if_neg (i_pos (by omega)), hB, if_pos ((nI_ltI (by omega) (by omega)).mpr h)]
theorem d_np_x {ι : iS} {P : Nat} {x : Int32} (hB : gI ι 2 1 = nI P) (h : x < 0 ∨ nI P ≤ x) : m_X6_needPerson x ι = some (.inl (0, pI ι 30 0 (gI ι 30 0 + 1))) := by
  unfold m_X6_needPerson
  by_cases h1 : x < 0
  · rw [if_pos h1]
  · rw [if_neg h1, hB, if_neg (Int32.not_lt.mpr (h.resolve_left h1))]
theorem d_nt_j {ι : iS} {P j : Nat} (hB : gI ι 2 0 = nI P) (h : j < P) (hP : P ≤ 16) : m_X6_needTrait (nI j) ι = some (.inr ι) := by
  unfold m_X6_needTrait
  rw [if_neg (i_pos (by omega)), hB, if_pos ((nI_ltI (by omega) (by omega)).mpr h)]
theorem d_nt_x {ι : iS} {P : Nat} {x : Int32} (hB : gI ι 2 0 = nI P) (h : x < 0 ∨ nI P ≤ x) : m_X6_needTrait x ι = some (.inl (0, pI ι 30 0 (gI ι 30 0 + 1))) := by
  unfold m_X6_needTrait
  by_cases h1 : x < 0
  · rw [if_pos h1]
  · rw [if_neg h1, hB, if_neg (Int32.not_lt.mpr (h.resolve_left h1))]
theorem d_nl_j {ι : iS} {P j : Nat} (hB : gI ι 2 2 = nI P) (h : j < P) (hP : P ≤ 16) : m_X6_needPlace (nI j) ι = some (.inr ι) := by
  unfold m_X6_needPlace
  rw [if_neg (i_pos (by omega)), hB, if_pos ((nI_ltI (by omega) (by omega)).mpr h)]
theorem d_nl_x {ι : iS} {P : Nat} {x : Int32} (hB : gI ι 2 2 = nI P) (h : x < 0 ∨ nI P ≤ x) : m_X6_needPlace x ι = some (.inl (0, pI ι 30 0 (gI ι 30 0 + 1))) := by
  unfold m_X6_needPlace
  by_cases h1 : x < 0
  · rw [if_pos h1]
  · rw [if_neg h1, hB, if_neg (Int32.not_lt.mpr (h.resolve_left h1))]
theorem d_nr_y {ι : iS} {x a b : Int32} (h1 : ¬ x < a) (h2 : ¬ b < x) : m_X6_needRange x a b ι = some (.inr ι) := by
  unfold m_X6_needRange
  rw [if_neg h1, if_pos (Int32.not_lt.mp h2)]
theorem d_nr_n {ι : iS} {x a b : Int32} (h : x < a ∨ b < x) : m_X6_needRange x a b ι = some (.inl (1, pI ι 30 1 (gI ι 30 1 + 1))) := by
  unfold m_X6_needRange
  by_cases h1 : x < a
  · rw [if_pos h1]
  · rw [if_neg h1, if_neg (Int32.not_le.mpr (h.resolve_left h1))]
theorem d_ns_1 {ι : iS} : m_X6_needState 1 ι = some (.inr ι) := rfl
theorem d_ns_0 {ι : iS} : m_X6_needState 0 ι = some (.inl (2, pI ι 30 2 (gI ι 30 2 + 1))) := rfl
/-- both sides have counted a refusal -/
theorem Inv_ref {ι ι' : iS} (hI : Inv ι) {e : Nat} (he : e < 3) (h : Sm (pI (pI ι 30 e (gI ι 30 e + 1)) 110 e (gI ι 110 e + 1)) ι') : Inv ι' := by
  refine Inv_sm h ?_
  obtain ⟨h1, ⟨n, hn, h2, h3, h4⟩, ⟨hp, a, ha, h5, h6, h7⟩, h8, h9⟩ := hI
  have q : ∀ o k, o ≠ 30 → o ≠ 110 → gI (pI (pI ι 30 e (gI ι 30 e + 1)) 110 e (gI ι 110 e + 1)) o k = gI ι o k := fun o k a b => by
    rw [gI_p2 _ _ (by omega), gI_p2 _ _ (by omega)]
  have qr : ∀ o, o ≠ 30 → o ≠ 110 → gI (pI (pI ι 30 e (gI ι 30 e + 1)) 110 e (gI ι 110 e + 1)) o = gI ι o := fun o a b => funext fun k => q o k a b
  have qb : ∀ o, (o = 2 ∨ (37 ≤ o ∧ o ≤ 100)) → blk (pI (pI ι 30 e (gI ι 30 e + 1)) 110 e (gI ι 110 e + 1)) o = blk ι o := fun o ho => by
    funext j k
    unfold blk
    by_cases hj : j ≤ 8
    · rw [if_pos hj, if_pos hj, q _ _ (by omega) (by omega)]
    · rw [if_neg hj, if_neg hj]
  refine ⟨?_, ⟨n, hn, ?_, ?_, fun k hk => ?_⟩, ⟨hp, a, ha, ?_, ?_, fun k hk o ho => ?_⟩, ?_, fun k hk => ?_⟩
  · rw [qb 2 (Or.inl rfl), qr 112 (by omega) (by omega)]; exact h1
  · rw [q _ _ (by omega) (by omega)]; exact h2
  · rw [q _ _ (by omega) (by omega)]; exact h3
  · rw [q _ _ (by omega) (by omega), q _ _ (by omega) (by omega)]; exact h4 k hk
  · rw [q _ _ (by omega) (by omega)]; exact h5
  · rw [q _ _ (by omega) (by omega)]; exact h6
  · obtain ⟨i, hi, e⟩ := pastR_le hp (by omega) ho
    rw [qb o (Or.inr (by omega)), qr (115 + k) (by omega) (by omega)]
    exact h7 k hk o ho
  · rw [q _ _ (by omega) (by omega), q _ _ (by omega) (by omega)]; exact h8
  · by_cases hke : k = e
    · subst hke
      rw [gI_p2 (x := 30) _ _ (by omega), gI_p1, gI_p1, h9 k hk]
    · rw [gI_p2 (x := 30) _ _ (by omega), gI_p2 (x := 30) _ _ (by omega), gI_p2 (x := 110) _ _ (by omega), gI_p2 (x := 110) _ _ (by omega)]
      exact h9 k hk
/-- what a step of the law wants -/
def Ok32 (W : Option (Int32 × iS)) (M : iS → Option (Int32 × iS)) : Prop := ∃ (k : Int32) (ι1 : iS) (v : Int32) (ι2 : iS), W = some (k, ι1) ∧ M ι1 = some (v, ι2) ∧ gI ι2 109 0 = k ∧ (k = 0 → gJ ι2 125 0 = v.toInt64) ∧ Inv ι2
def Ok64 (W : Option (Int32 × iS)) (M : iS → Option (Int64 × iS)) : Prop := ∃ (k : Int32) (ι1 : iS) (v : Int64) (ι2 : iS), W = some (k, ι1) ∧ M ι1 = some (v, ι2) ∧ gI ι2 109 0 = k ∧ (k = 0 → gJ ι2 125 0 = v) ∧ Inv ι2
def OkP {α : Type} (X : Option (α × iS)) (M : iS → Option (α × iS)) : Prop := ∃ (v : α) (ι1 ι2 : iS), X = some (v, ι1) ∧ M ι1 = some (v, ι2) ∧ Inv ι2
theorem scr_t : scr 109 0 = true := by decide
theorem ok_fault {ι : iS} (h : Inv ι) : OkP (m_X6_fault ι) m_X7_fault := by
  refine ⟨gI ι 0 6, ι, pI ι 109 0 0, rfl, ?_, Inv_sm ((Sm.rf ι).pI scr_t) h⟩
  show some (gI (pI ι 109 0 0) 109 5, pI ι 109 0 0) = _
  rw [gI_p2 _ _ (by omega), h.2.2.2.1]
theorem ok_status {ι : iS} (h : Inv ι) (x : Int32) : OkP (m_X6_status x ι) (m_X7_status x) := by
  have hS := Inv_sm ((Sm.rf ι).pI (v := 0) scr_t) h
  rcases pk_ix x (n := 3) (by omega) with hx | hx | ⟨j, hj, rfl⟩
  · refine ⟨-1, ι, pI ι 109 0 0, ?_, ?_, hS⟩
    · unfold m_X6_status; rw [if_pos hx]
    · unfold m_X7_status
      rw [m_in_n (Or.inl hx)]
      rfl
  · refine ⟨-1, ι, pI ι 109 0 0, ?_, ?_, hS⟩
    · unfold m_X6_status
      by_cases h1 : x < 0
      · rw [if_pos h1]
      · rw [if_neg h1, if_pos (show (3 : Int32) ≤ x from hx)]
    · unfold m_X7_status
      have := m_in_x (n := 3) (x := x) (by omega) (Or.inr hx) (ι := pI ι 109 0 0)
      rw [show (2 : Int32) = nI 3 - 1 by decide, this]
      rfl
  · refine ⟨gI ι 30 j, ι, pI ι 109 0 0, ?_, ?_, hS⟩
    · unfold m_X6_status
      rw [if_neg (i_pos (by omega)), if_neg (show ¬ (3 : Int32) ≤ nI j from fun h => by have := (nI_leI (a := 3) (b := j) (by omega) (by omega)).mp h; omega), if_pos (aIn_nI hj (by omega)), nI_clamp (by omega)]
    · unfold m_X7_status
      rw [show (2 : Int32) = nI 3 - 1 by decide, m_in_j hj (by omega)]
      rw [Option.bind_some]
      dsimp only
      rw [if_neg (by decide), if_pos (aIn_nI hj (by omega)), nI_clamp (by omega), gI_p2 _ _ (by omega), h.2.2.2.2 j hj]
