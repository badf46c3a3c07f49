/-! the class rates those of a text -/
def DV (ι : iS) (r : Nat → Int32) (T P : Nat) : Prop := (1 ≤ T ∧ T ≤ 5) ∧ (1 ≤ P ∧ P ≤ 16) ∧ gI ι 12 0 = nI T ∧ (∀ q, q < P → ∀ t, t < T → gI ι 13 (5 * q + t) = r (9 + 5 * q + t) ∧ ∃ m, r (9 + 5 * q + t) = nI m ∧ m ≤ 9) ∧ (∀ t, t < 5 → gI ι 14 t = r (89 + t) ∧ gI ι 15 t = r (94 + t) ∧ ((r (89 + t) = -1 ∧ r (94 + t) = 0) ∨ ∃ v w, r (89 + t) = nI v ∧ v ≤ 9 ∧ r (94 + t) = nI w ∧ 1 ≤ w ∧ w ≤ 9))
theorem DV_cg {ι ι' : iS} {r : Nat → Int32} {T P : Nat} (h : DV ι r T P) (hg : ∀ y i, 12 ≤ y → y ≤ 15 → gI ι' y i = gI ι y i) : DV ι' r T P := by
  obtain ⟨h1, h2, h3, h4, h5⟩ := h
  exact ⟨h1, h2, by rw [hg _ _ (by omega) (by omega)]; exact h3, fun q hq t ht => by rw [hg _ _ (by omega) (by omega)]; exact h4 q hq t ht, fun t ht => by rw [hg _ _ (by omega) (by omega), hg _ _ (by omega) (by omega)]; exact h5 t ht⟩
theorem g_7 (d : Int32) : 0 - d = -d := by grind
theorem d_diff {ι : iS} {r : Nat → Int32} {T P q t : Nat} (h : DV ι r T P) (hq : q < P) (ht : t < T) (g : Int32) : m_X2_differenceOf 12 (nI q) (nI t) g ι = some (rOff r q t g, ι) := by
  obtain ⟨h1, h2, h3, h4, h5⟩ := h
  obtain ⟨a1, a2, a3⟩ := h5 t (by omega)
  have hv := (h4 q hq t ht).1
  have hv0 := (h4 0 (by omega) t ht).1
  unfold m_X2_differenceOf rOff
  rw [show (5 : Int32) = nI 5 from rfl, pk_mul, nI_add, show (0 : Int32) + nI t = nI (0 + t) from nI_add 0 t, nI_clamp (n := t) (by omega), nI_clamp (n := q * 5 + t) (by omega), nI_clamp (n := 0 + t) (by omega), show gI ι (12 + 3) t = r (94 + t) from a2, show gI ι (12 + 2) t = r (89 + t) from a1, show gI ι (12 + 1) (q * 5 + t) = r (9 + 5 * q + t) by rw [Nat.mul_comm q 5]; exact hv, show gI ι (12 + 1) (0 + t) = r (9 + t) by rw [show 0 + t = 5 * 0 + t by omega]; exact hv0]
  simp only [if_pos (aIn_nI (show t < 5 by omega) (by omega)), if_pos (aIn_nI (show q * 5 + t < 80 by omega) (by omega)), if_pos (aIn_nI (show 0 + t < 80 by omega) (by omega)), g_7]
  rcases a3 with ⟨b1, b2⟩ | ⟨v, w, b1, b2, b3, b4, b5⟩
  · rw [if_pos b2, if_pos b1]
  · rw [if_neg (show ¬ r (94 + t) = 0 by rw [b3]; exact nI_ne0 (by omega) (by omega)), if_neg (show ¬ r (89 + t) = -1 by rw [b1]; exact nI_nm1 (by omega))]
    by_cases hg : g = 0
    · simp only [if_pos hg]
    · simp only [if_neg hg]
theorem off_rng {r : Nat → Int32} {T P q t : Nat} {ι : iS} (h : DV ι r T P) (hq : q < P) (ht : t < T) (g : Int32) : ∃ x, rOff r q t g = nI x ∧ x ≤ 9 := by
  obtain ⟨h1, h2, h3, h4, h5⟩ := h
  obtain ⟨a1, a2, a3⟩ := h5 t (by omega)
  obtain ⟨m, hm, hm9⟩ := (h4 q hq t ht).2
  obtain ⟨m0, hm0, hm09⟩ := (h4 0 (by omega) t ht).2
  rw [show 9 + 5 * 0 + t = 9 + t by omega] at hm0
  have key : ∀ x y : Nat, x ≤ 9 → y ≤ 9 → ∃ z, (if 0 ≤ nI x - nI y then nI x - nI y else -(nI x - nI y)) = nI z ∧ z ≤ 9 := fun x y hx hy => by
    have ht := pk_sub_toInt (a := x) (b := y) (by omega) (by omega)
    by_cases z : y ≤ x
    · rw [if_pos (show (0 : Int32) ≤ nI x - nI y by rw [Int32.le_iff_toInt_le, ht]; show (0 : Int) ≤ _; omega), pk_sub z]
      exact ⟨x - y, rfl, by omega⟩
    · rw [if_neg (show ¬ (0 : Int32) ≤ nI x - nI y by rw [Int32.le_iff_toInt_le, ht]; show ¬ (0 : Int) ≤ _; omega), show -(nI x - nI y) = nI y - nI x by grind, pk_sub (by omega)]
      exact ⟨y - x, rfl, by omega⟩
  unfold rOff
  rcases a3 with ⟨b1, -⟩ | ⟨v, w, b1, b2, -⟩
  · rw [if_pos b1]; exact ⟨0, rfl, by omega⟩
  · rw [if_neg (by rw [b1]; exact nI_nm1 (by omega)), hm]
    by_cases hg : g = 0
    · simp only [if_pos hg, b1]; exact key m v hm9 b2
    · simp only [if_neg hg, hm0]; exact key m m0 hm9 hm09
theorem d_plain_loop {ι : iS} {r : Nat → Int32} {T P q : Nat} (h : DV ι r T P) (hq : q < P) (g : Int32) : ∀ d t m s, t + d = T → d < m → rPlain r q g t = lN s → s ≤ 81 * t → ∃ s', l_X1_plainRate_5 12 m (nI q) g (nI s) (nI t) ι = some (nI s', ι) ∧ rPlain r q g T = lN s' ∧ s' ≤ 405 := by
  have hT := h.1
  intro d
  induction d with
  | zero =>
    intro t m s ht hm hs hb
    obtain ⟨m, rfl⟩ : ∃ y, m = y + 1 := ⟨m - 1, by omega⟩
    obtain rfl : t = T := by omega
    exact ⟨s, by rw [l_X1_plainRate_5, h.2.2.1, if_pos (Int32.le_refl _)], hs, by omega⟩
  | succ d ih =>
    intro t m s ht hm hs hb
    obtain ⟨m, rfl⟩ : ∃ y, m = y + 1 := ⟨m - 1, by omega⟩
    obtain ⟨x, hx, hx9⟩ := off_rng h hq (show t < T by omega) g
    obtain ⟨-, a2, a3⟩ := h.2.2.2.2 t (by omega)
    obtain ⟨w, hw, hw9⟩ : ∃ w, r (94 + t) = nI w ∧ w ≤ 9 := by
      rcases a3 with ⟨-, b⟩ | ⟨v, w, -, -, b, -, b2⟩
      · exact ⟨0, b, by omega⟩
      · exact ⟨w, b, b2⟩
    have hmul : w * (9 - x) ≤ 81 := by
      calc w * (9 - x) ≤ 9 * 9 := Nat.mul_le_mul hw9 (by omega)
        _ = 81 := rfl
    have hterm : r (94 + t) * (9 - rOff r q t g) = nI (w * (9 - x)) := by
      rw [hw, hx, show (9 : Int32) = nI 9 from rfl, pk_sub hx9, pk_mul]
    rw [l_X1_plainRate_5, h.2.2.1, if_neg (nI_ge (by omega) (by omega)), if_pos (aIn_nI (by omega) (by omega)), d_diff h hq (by omega), Option.bind_some, nI_clamp (by omega), show gI ι (12 + 3) t = r (94 + t) from a2]
    dsimp only
    rw [hterm, nI_add, nI_1]
    refine ih (t + 1) m _ (by omega) (by omega) ?_ (by omega)
    rw [rPlain, hs, hterm, nI_l (by omega), lN_add]
/-! small values stay small -/
def Bk (x : Int64) : Prop := -1000000 ≤ x.toInt ∧ x.toInt ≤ 1000000
theorem hold_Bk (x : Int64) : Bk (hold x) := by
  have e1 : (1000000 : Int64).toInt = 1000000 := by decide
  have e2 : (-1000000 : Int64).toInt = -1000000 := by decide
  unfold Bk hold
  by_cases h1 : x ≤ 1000000
  · rw [if_pos h1]
    rw [Int64.le_iff_toInt_le, e1] at h1
    by_cases h2 : -1000000 ≤ x
    · rw [if_pos h2]
      rw [Int64.le_iff_toInt_le, e2] at h2
      exact ⟨h2, h1⟩
    · rw [if_neg h2, e2]; omega
  · rw [if_neg h1, e1]; omega
theorem lN_Bk {n : Nat} (h : n ≤ 1000000) : Bk (lN n) := by
  unfold Bk
  rw [pk_lT (by omega)]
  omega
theorem neg_Bk {x : Int64} (h : Bk x) : Bk (-x) := by
  unfold Bk at *
  rw [Int64.toInt_neg]
  have : (-x.toInt).bmod (2 ^ 64) = -x.toInt := Int.bmod_eq_of_le (by omega) (by omega)
  rw [this]
  omega
theorem rLeaf_Bk {ι : iS} {r : Nat → Int32} {T P p : Nat} (h : DV ι r T P) (hp : p < P) (g : Int32) {q : Nat × Nat} (hq : okQ T q) (h4 : q.1 < 4) : Bk (rLeaf r p g q) := by
  have hT := h.1
  unfold rLeaf
  by_cases q0 : q.1 = 0
  · rw [if_pos q0]
    have := hq.2.1 q0
    rw [nI_l (by omega)]
    exact lN_Bk (by omega)
  · have hq2 := hq.2.2 (by omega) h4
    rw [if_neg q0]
    by_cases q1 : q.1 = 1
    · rw [if_pos q1]
      obtain ⟨m, hm, hm9⟩ := (h.2.2.2.1 p hp q.2 hq2).2
      rw [hm, nI_l (by omega)]
      exact lN_Bk (by omega)
    · rw [if_neg q1]
      by_cases q2 : q.1 = 2
      · rw [if_pos q2]
        obtain ⟨x, hx, hx9⟩ := off_rng h hp hq2 g
        rw [hx, nI_l (by omega)]
        exact lN_Bk (by omega)
      · rw [if_neg q2]
        obtain ⟨-, -, a3⟩ := h.2.2.2.2 q.2 (by omega)
        rcases a3 with ⟨-, b⟩ | ⟨v, w, -, -, b, -, b2⟩
        · rw [b]; exact lN_Bk (n := 0) (by omega)
        · rw [b, nI_l (by omega)]; exact lN_Bk (by omega)
theorem fold_Bk {ι : iS} {r : Nat → Int32} {T P p : Nat} (h : DV ι r T P) (hp : p < P) (g : Int32) : ∀ (F : List (Nat × Nat)) (st : List Int64), (∀ q ∈ F, okQ T q) → (∀ x ∈ st, Bk x) → ∀ x ∈ F.foldl (rStep r p g) st, Bk x := by
  intro F
  induction F with
  | nil => intro st _ hs; rw [List.foldl_nil]; exact hs
  | cons q F ih =>
    intro st hF hs
    rw [List.foldl_cons]
    refine ih _ (fun q hq => hF q (List.mem_cons_of_mem _ hq)) ?_
    unfold rStep
    by_cases h4 : q.1 < 4
    · rw [if_pos h4]
      intro x hx
      rcases List.mem_cons.mp hx with rfl | hx
      · exact rLeaf_Bk h hp g (hF q List.mem_cons_self) h4
      · exact hs x hx
    · rw [if_neg h4]
      by_cases h44 : q.1 = 4
      · rw [if_pos h44]
        match st, hs with
        | [], hs => exact hs
        | a :: s, hs =>
          intro x hx
          rcases List.mem_cons.mp hx with rfl | hx
          · exact neg_Bk (hs a List.mem_cons_self)
          · exact hs x (List.mem_cons_of_mem _ hx)
      · rw [if_neg h44]
        match st, hs with
        | [], hs => exact hs
        | [a], hs => exact hs
        | c :: a :: s, hs =>
          intro x hx
          rcases List.mem_cons.mp hx with rfl | hx
          · exact hold_Bk _
          · exact hs x (List.mem_cons_of_mem _ (List.mem_cons_of_mem _ hx))
theorem run_Bk {ι : iS} {r : Nat → Int32} {T P p : Nat} (h : DV ι r T P) (hp : p < P) (g : Int32) {F : List (Nat × Nat)} (hF : ∀ q ∈ F, okQ T q) : Bk (rRun r p g F) := by
  have := fold_Bk h hp g F [] hF (fun x hx => by cases hx)
  unfold rRun
  cases hc : F.foldl (rStep r p g) [] with
  | nil => exact lN_Bk (n := 0) (by omega)
  | cons a s =>
    rw [hc] at this
    exact this a List.mem_cons_self
/-- the class's clip is the reference's -/
theorem d_clip {v : Int64} (h : Bk v) (ι : iS) : m_X6_held v.toInt32 0 99 ι = some (if v < 0 then 0 else if v ≤ 99 then v.toInt32 else 99, ι) := by
  have e0 : (0 : Int64).toInt = 0 := by decide
  have e9 : (99 : Int64).toInt = 99 := by decide
  have f0 : (0 : Int32).toInt = 0 := by decide
  have f9 : (99 : Int32).toInt = 99 := by decide
  have ht : v.toInt32.toInt = v.toInt := by
    rw [Int64.toInt_toInt32]
    exact Int.bmod_eq_of_le (by have := h.1; omega) (by have := h.2; omega)
  unfold m_X6_held
  by_cases h1 : v < 0
  · rw [if_pos h1]
    rw [Int64.lt_iff_toInt_lt, e0] at h1
    rw [if_pos (show v.toInt32 < 99 by rw [Int32.lt_iff_toInt_lt, ht, f9]; omega), if_neg (show ¬ (0 : Int32) < v.toInt32 by rw [Int32.lt_iff_toInt_lt, ht, f0]; omega)]
  · rw [if_neg h1]
    rw [Int64.lt_iff_toInt_lt, e0] at h1
    by_cases h2 : v ≤ 99
    · rw [if_pos h2]
      rw [Int64.le_iff_toInt_le, e9] at h2
      by_cases h3 : v.toInt = 99
      · rw [if_neg (show ¬ v.toInt32 < 99 by rw [Int32.lt_iff_toInt_lt, ht, f9]; omega), if_pos (by decide), show v.toInt32 = 99 from Int32.toInt_inj.mp (by rw [ht, f9, h3])]
      · rw [if_pos (show v.toInt32 < 99 by rw [Int32.lt_iff_toInt_lt, ht, f9]; omega)]
        by_cases h4 : v.toInt = 0
        · rw [if_neg (show ¬ (0 : Int32) < v.toInt32 by rw [Int32.lt_iff_toInt_lt, ht, f0]; omega), show v.toInt32 = 0 from Int32.toInt_inj.mp (by rw [ht, f0, h4])]
        · rw [if_pos (show (0 : Int32) < v.toInt32 by rw [Int32.lt_iff_toInt_lt, ht, f0]; omega)]
    · rw [if_neg h2]
      rw [Int64.le_iff_toInt_le, e9] at h2
      rw [if_neg (show ¬ v.toInt32 < 99 by rw [Int32.lt_iff_toInt_lt, ht, f9]; omega), if_pos (by decide)]
