/-! the calls that only ask -/
theorem i10 : ¬ (1 : Int32) = 0 := by decide
theorem ok_refuse {W : Option (Int32 × iS)} {M : iS → Option (Int32 × iS)} {ι : iS} (hI : Inv ι) {e : Nat} {c v : Int32} (he : e < 3) (hc : ¬ c = 0) (hW : W = some (c, pI ι 30 e (gI ι 30 e + 1))) (hM : M (pI ι 30 e (gI ι 30 e + 1)) = some (v, pI (pI (pI (pI ι 30 e (gI ι 30 e + 1)) 109 0 0) 109 0 c) 110 e (gI (pI (pI ι 30 e (gI ι 30 e + 1)) 109 0 0) 110 e + 1))) : Ok32 W M := by
  refine ⟨c, _, v, _, hW, hM, ?_, fun h => absurd h hc, Inv_ref hI he ⟨fun o k hs => ?_, fun k => rfl⟩⟩
  · rw [gI_p2 _ _ (by omega), gI_p1]
  · rw [gI_p2 (x := 110) (y := e) _ _ (by omega), gI_p2 (x := 110) (y := e) _ _ (by omega)]
    have h0 : ¬ (o = 109 ∧ k = 0) := fun h => by rw [h.1, h.2] at hs; revert hs; decide
    simp only [gI_pI, if_neg h0]
theorem ok_refuse64 {W : Option (Int32 × iS)} {M : iS → Option (Int64 × iS)} {ι : iS} (hI : Inv ι) {e : Nat} {c : Int32} {v : Int64} (he : e < 3) (hc : ¬ c = 0) (hW : W = some (c, pI ι 30 e (gI ι 30 e + 1))) (hM : M (pI ι 30 e (gI ι 30 e + 1)) = some (v, pI (pI (pI (pI ι 30 e (gI ι 30 e + 1)) 109 0 0) 109 0 c) 110 e (gI (pI (pI ι 30 e (gI ι 30 e + 1)) 109 0 0) 110 e + 1))) : Ok64 W M := by
  refine ⟨c, _, v, _, hW, hM, ?_, fun h => absurd h hc, Inv_ref hI he ⟨fun o k hs => ?_, fun k => rfl⟩⟩
  · rw [gI_p2 _ _ (by omega), gI_p1]
  · rw [gI_p2 (x := 110) (y := e) _ _ (by omega), gI_p2 (x := 110) (y := e) _ _ (by omega)]
    have h0 : ¬ (o = 109 ∧ k = 0) := fun h => by rw [h.1, h.2] at hs; revert hs; decide
    simp only [gI_pI, if_neg h0]
theorem ok_ask {W : Option (Int32 × iS)} {M : iS → Option (Int32 × iS)} {ι : iS} (hI : Inv ι) {v : Int32} (hW : W = some (0, pJ ι 125 0 v.toInt64)) (hM : M (pJ ι 125 0 v.toInt64) = some (v, pI (pJ ι 125 0 v.toInt64) 109 0 0)) : Ok32 W M :=
  ⟨0, _, v, _, hW, hM, rfl, fun _ => rfl, Inv_sm ((Sm.rf ι).pJ.pI scr_t) hI⟩
theorem ok_ask2 {W : Option (Int32 × iS)} {M : iS → Option (Int32 × iS)} {ι ι1 ι2 : iS} (hI : Inv ι) {v : Int32} (hW : W = some (0, pJ ι1 125 0 v.toInt64)) (hM : M (pJ ι1 125 0 v.toInt64) = some (v, ι2)) (h0 : gI ι2 109 0 = 0) (hj : gJ ι2 125 0 = v.toInt64) (hs : Sm ι ι2) : Ok32 W M :=
  ⟨0, _, v, _, hW, hM, h0, fun _ => hj, Inv_sm hs hI⟩
theorem ok_ask64 {W : Option (Int32 × iS)} {M : iS → Option (Int64 × iS)} {ι ι1 ι2 : iS} (hI : Inv ι) {v : Int64} (hW : W = some (0, pJ ι1 125 0 v)) (hM : M (pJ ι1 125 0 v) = some (v, ι2)) (h0 : gI ι2 109 0 = 0) (hj : gJ ι2 125 0 = v) (hs : Sm ι ι2) : Ok64 W M :=
  ⟨0, _, v, _, hW, hM, h0, fun _ => hj, Inv_sm hs hI⟩
theorem ok_shown {ι : iS} (h : Inv ι) (x : Int32) : Ok32 (w_shown x ι) (m_X7_shown x) := by
  obtain ⟨⟨T, P, S, F, ⟨⟨hT, hP, hS⟩, ⟨⟨b0, r0⟩, ⟨b1, r1⟩, ⟨b2, r2⟩⟩, hset, hval, htold, hord, hinj, hmock⟩, hcod, hmt⟩, -⟩ := id h
  have b2 : gI ι 2 2 = nI S := b2
  rcases (show (x < 0 ∨ nI S ≤ x) ∨ ∃ j : Nat, j < S ∧ x = nI j from or_assoc.mpr (pk_ix x (n := S) (by omega))) with hx | ⟨j, hj, rfl⟩
  · refine ok_refuse h (e := 0) (c := 1) (v := 0) (by omega) i10 ?_ ?_
    · unfold w_shown m_X6_shown
      rw [d_nl_x b2 hx]
      rfl
    · unfold m_X7_shown
      rw [m_isPlace_x (S := S) (h := hx) (hS := hS), Option.bind_some]
      · dsimp only
        rw [if_pos rfl, show m_X7_bad 1 1 0 = m_X7_bad 1 1 (nI 0) from rfl, m_bad_1 (e := 0) (hc := i10) (he := by omega)]
        · rfl
        · rfl
      · exact r2
  · refine ok_ask h (v := gI ι 112 (99 + j)) ?_ ?_
    · unfold w_shown m_X6_shown
      rw [d_nl_j b2 hj (by omega), Option.bind_some]
      dsimp only
      rw [if_pos (aIn_nI (by omega) (by omega)), nI_clamp (by omega), Option.bind_some]
      dsimp only
      rw [show gI ι 7 j = gI ι 112 (99 + j) from (hord j hj).1]
    · unfold m_X7_shown
      rw [m_isPlace_j (S := S) (h := hj) (hS := hS), Option.bind_some]
      · dsimp only
        rw [if_neg i10, m_bad_0, Option.bind_some]
        · dsimp only
          rw [if_pos rfl, show (99 : Int32) + nI j = nI (99 + j) from nI_add 99 j, if_pos (aIn_nI (by omega) (by omega)), nI_clamp (by omega)]
          rfl
        · rfl
      · exact r2
theorem ok_mocks {ι : iS} (h : Inv ι) (x : Int32) : Ok32 (w_mocks x ι) (m_X7_mocks x) := by
  obtain ⟨⟨T, P, S, F, ⟨⟨hT, hP, hS⟩, ⟨⟨b0, r0⟩, ⟨b1, r1⟩, ⟨b2, r2⟩⟩, hset, hval, htold, hord, hinj, hmock⟩, hcod, hmt⟩, -⟩ := id h
  have b1 : gI ι 2 1 = nI P := b1
  rcases (show (x < 0 ∨ nI P ≤ x) ∨ ∃ j : Nat, j < P ∧ x = nI j from or_assoc.mpr (pk_ix x (n := P) (by omega))) with hx | ⟨j, hj, rfl⟩
  · refine ok_refuse h (e := 0) (c := 1) (v := 0) (by omega) i10 ?_ ?_
    · unfold w_mocks m_X6_mocks
      rw [d_np_x b1 hx]
      rfl
    · unfold m_X7_mocks
      rw [m_isPerson_x (P := P) (h := hx) (hP := hP), Option.bind_some]
      · dsimp only
        rw [if_pos rfl, show m_X7_bad 1 1 0 = m_X7_bad 1 1 (nI 0) from rfl, m_bad_1 (e := 0) (hc := i10) (he := by omega)]
        · rfl
        · rfl
      · exact r1
  · refine ok_ask h (v := gI ι 112 (107 + j)) ?_ ?_
    · unfold w_mocks m_X6_mocks
      rw [d_np_j b1 hj (by omega), Option.bind_some]
      dsimp only
      rw [if_pos (aIn_nI (by omega) (by omega)), nI_clamp (by omega), Option.bind_some]
      dsimp only
      rw [show gI ι 8 j = gI ι 112 (107 + j) from (hmock j (by omega)).1]
    · unfold m_X7_mocks
      rw [m_isPerson_j (P := P) (h := hj) (hP := hP.2), Option.bind_some]
      · dsimp only
        rw [if_neg i10, m_bad_0, Option.bind_some]
        · dsimp only
          rw [if_pos rfl, show (107 : Int32) + nI j = nI (107 + j) from nI_add 107 j, if_pos (aIn_nI (by omega) (by omega)), nI_clamp (by omega)]
          rfl
        · rfl
      · exact r1
theorem d_val {ι : iS} {o p t : Nat} (hp : p < 16) (ht : t < 5) : m_X2_valueOf o (nI p) (nI t) ι = some (gI ι (o + 1) (5 * p + t), ι) := by
  unfold m_X2_valueOf
  rw [show (5 : Int32) = nI 5 from rfl, pk_mul, nI_add, if_pos (aIn_nI (by omega) (by omega)), nI_clamp (by omega), Nat.mul_comm p 5]
theorem m_val {ι : iS} {p t : Nat} (hp : p < 16) (ht : t < 5) : m_X7_valueOf (nI p) (nI t) ι = some (gI ι 112 (9 + 5 * p + t), ι) := by
  unfold m_X7_valueOf
  rw [show (5 : Int32) = nI 5 from rfl, show (9 : Int32) = nI 9 from rfl, pk_mul, nI_add, nI_add, if_pos (aIn_nI (by omega) (by omega)), nI_clamp (by omega)]
theorem ok_value {ι : iS} (h : Inv ι) (x y : Int32) : Ok32 (w_value x y ι) (m_X7_value x y) := by
  obtain ⟨⟨T, P, S, F, ⟨⟨hT, hP, hS⟩, ⟨⟨b0, r0⟩, ⟨b1, r1⟩, ⟨b2, r2⟩⟩, hset, hval, htold, hord, hinj, hmock⟩, hcod, hmt⟩, -⟩ := id h
  have b1 : gI ι 2 1 = nI P := b1
  have b0 : gI ι 2 0 = nI T := b0
  rcases (show (x < 0 ∨ nI P ≤ x) ∨ ∃ j : Nat, j < P ∧ x = nI j from or_assoc.mpr (pk_ix x (n := P) (by omega))) with hx | ⟨j, hj, rfl⟩
  · refine ok_refuse h (e := 0) (c := 1) (v := 0) (by omega) i10 ?_ ?_
    · unfold w_value m_X6_value
      rw [d_np_x b1 hx]
      rfl
    · unfold m_X7_value
      rw [m_isPerson_x (P := P) (h := hx) (hP := hP), Option.bind_some]
      · dsimp only
        rw [if_pos rfl, show m_X7_bad 1 1 0 = m_X7_bad 1 1 (nI 0) from rfl, m_bad_1 (e := 0) (hc := i10) (he := by omega)]
        · rfl
        · rfl
      · exact r1
  rcases (show (y < 0 ∨ nI T ≤ y) ∨ ∃ t : Nat, t < T ∧ y = nI t from or_assoc.mpr (pk_ix y (n := T) (by omega))) with hy | ⟨t, ht, rfl⟩
  · refine ok_refuse h (e := 0) (c := 1) (v := 0) (by omega) i10 ?_ ?_
    · unfold w_value m_X6_value
      rw [d_np_j b1 hj (by omega), Option.bind_some]
      dsimp only
      rw [d_nt_x b0 hy]
      rfl
    · unfold m_X7_value
      rw [m_isPerson_j (P := P) (h := hj) (hP := hP.2), Option.bind_some]
      · dsimp only
        rw [if_neg i10, m_isTrait_x (T := T) (h := hy) (hT := hT.2), Option.bind_some]
        · dsimp only
          rw [if_pos rfl, show m_X7_bad 1 1 0 = m_X7_bad 1 1 (nI 0) from rfl, m_bad_1 (e := 0) (hc := i10) (he := by omega)]
          · rfl
          · rfl
        · exact r0
      · exact r1
  · refine ok_ask h (v := gI ι 112 (9 + 5 * j + t)) ?_ ?_
    · unfold w_value m_X6_value
      rw [d_np_j b1 hj (by omega), Option.bind_some]
      dsimp only
      rw [d_nt_j b0 ht (by omega), Option.bind_some]
      dsimp only
      rw [d_val (by omega) (by omega), Option.bind_some, Option.bind_some]
      dsimp only
      rw [show gI ι (2 + 1) (5 * j + t) = gI ι 112 (9 + 5 * j + t) from (hval j hj t ht).1]
    · unfold m_X7_value
      rw [m_isPerson_j (P := P) (h := hj) (hP := hP.2), Option.bind_some]
      · dsimp only
        rw [if_neg i10, m_isTrait_j (T := T) (h := ht) (hT := hT.2), Option.bind_some]
        · dsimp only
          rw [if_neg i10, m_bad_0, Option.bind_some]
          · dsimp only
            rw [if_pos rfl, m_val (by omega) (by omega), Option.bind_some]
            rfl
          · rfl
        · exact r0
      · exact r1
theorem ok_trait {ι : iS} (h : Inv ι) (x y : Int32) : Ok32 (w_trait x y ι) (m_X7_trait x y) := by
  obtain ⟨⟨T, P, S, F, ⟨⟨hT, hP, hS⟩, ⟨⟨b0, r0⟩, ⟨b1, r1⟩, ⟨b2, r2⟩⟩, hset, hval, htold, hord, hinj, hmock⟩, hcod, hmt⟩, -⟩ := id h
  have b0 : gI ι 2 0 = nI T := b0
  rcases (show (x < 0 ∨ nI T ≤ x) ∨ ∃ j : Nat, j < T ∧ x = nI j from or_assoc.mpr (pk_ix x (n := T) (by omega))) with hx | ⟨j, hj, rfl⟩
  · refine ok_refuse h (e := 0) (c := 1) (v := 0) (by omega) i10 ?_ ?_
    · unfold w_trait m_X6_trait
      rw [d_nt_x b0 hx]
      rfl
    · unfold m_X7_trait
      rw [m_isTrait_x (T := T) (h := hx) (hT := hT.2), Option.bind_some]
      · dsimp only
        rw [if_pos rfl, show m_X7_bad 1 1 0 = m_X7_bad 1 1 (nI 0) from rfl, m_bad_1 (e := 0) (hc := i10) (he := by omega)]
        · rfl
        · rfl
      · exact r0
  by_cases hy : y < 0 ∨ 1 < y
  · refine ok_refuse h (e := 1) (c := 2) (v := 0) (by omega) (by decide) ?_ ?_
    · unfold w_trait m_X6_trait
      rw [d_nt_j b0 hj (by omega), Option.bind_some]
      dsimp only
      rw [d_nr_n hy]
      rfl
    · unfold m_X7_trait
      rw [m_isTrait_j (T := T) (h := hj) (hT := hT.2), Option.bind_some]
      · dsimp only
        rw [if_neg i10, m_bad_0, Option.bind_some]
        · dsimp only
          rw [if_pos rfl, m_in_n hy, Option.bind_some]
          dsimp only
          rw [if_pos rfl, show m_X7_bad 1 2 1 = m_X7_bad 1 2 (nI 1) from rfl, m_bad_1 (e := 1) (hc := by decide) (he := by omega)]
          · rfl
          · rfl
        · rfl
      · exact r0
  · obtain ⟨hy1, hy2⟩ := not_or.mp hy
    refine ok_ask h (v := if y = 0 then gI ι 112 (89 + j) else gI ι 112 (94 + j)) ?_ ?_
    · unfold w_trait m_X6_trait
      rw [d_nt_j b0 hj (by omega), Option.bind_some]
      dsimp only
      rw [d_nr_y hy1 hy2, Option.bind_some]
      dsimp only
      rw [if_pos (aIn_nI (by omega) (by omega)), if_pos (aIn_nI (by omega) (by omega)), nI_clamp (by omega), show gI ι 4 j = gI ι 112 (89 + j) from (htold j (by omega)).1, show gI ι 5 j = gI ι 112 (94 + j) from (htold j (by omega)).2.1]
      by_cases hy0 : y = 0
      · rw [if_pos hy0, if_pos hy0]; rfl
      · rw [if_neg hy0, if_neg hy0]; rfl
    · unfold m_X7_trait
      rw [m_isTrait_j (T := T) (h := hj) (hT := hT.2), Option.bind_some]
      · dsimp only
        rw [if_neg i10, m_bad_0, Option.bind_some]
        · dsimp only
          rw [if_pos rfl, m_in_y hy1 hy2, Option.bind_some]
          dsimp only
          rw [if_neg i10, m_bad_0, Option.bind_some]
          · dsimp only
            rw [if_pos rfl, show (89 : Int32) + nI j = nI (89 + j) from nI_add 89 j, show (94 : Int32) + nI j = nI (94 + j) from nI_add 94 j, if_pos (aIn_nI (by omega) (by omega)), if_pos (aIn_nI (by omega) (by omega)), nI_clamp (by omega), nI_clamp (by omega)]
            by_cases hy0 : y = 0
            · simp only [if_pos hy0]; rfl
            · simp only [if_neg hy0]; rfl
          · rfl
        · rfl
      · exact r0
/-! sums, prints -/
def ms (f : Nat → Int32) : Nat → Int32
  | 0 => 0
  | k + 1 => ms f k + f k
theorem d_ms {ι : iS} {o P : Nat} (hP : gI ι o 1 = nI P) (h16 : P ≤ 16) : ∀ d k n, k + d = P → d < n → l_X2_allMockPicks_4 o n (ms (gI ι (o + 6)) k) (nI k) ι = some (ms (gI ι (o + 6)) P, ι) := by
  intro d
  induction d with
  | zero =>
    intro k n hk hn
    obtain ⟨n, rfl⟩ : ∃ m, n = m + 1 := ⟨n - 1, by omega⟩
    obtain rfl : k = P := by omega
    rw [l_X2_allMockPicks_4, hP, if_pos (Int32.le_refl _)]
  | succ d ih =>
    intro k n hk hn
    obtain ⟨n, rfl⟩ : ∃ m, n = m + 1 := ⟨n - 1, by omega⟩
    rw [l_X2_allMockPicks_4, hP, if_neg (nI_ge (by omega) (by omega)), if_pos (aIn_nI (by omega) (by omega)), nI_clamp (by omega), nI_1]
    exact ih (k + 1) n (by omega) (by omega)
theorem ms_zero {f : Nat → Int32} {P : Nat} (hf : ∀ k, P ≤ k → k < 16 → f k = 0) : ∀ d, P + d ≤ 16 → ms f (P + d) = ms f P := by
  intro d
  induction d with
  | zero => intro _; rfl
  | succ d ih =>
    intro h
    show ms f (P + d) + f (P + d) = _
    rw [ih (by omega), hf _ (by omega) (by omega), Int32.add_zero]
theorem ms_ext {f g : Nat → Int32} {n : Nat} (h : ∀ k, k < n → f k = g k) : ms f n = ms g n := by
  induction n with
  | zero => rfl
  | succ n ih =>
    show ms f n + f n = ms g n + g n
    rw [ih (fun k hk => h k (by omega)), h n (by omega)]
def pr (f : Nat → Int32) (g : Int32 → Int32) : Nat → Int64
  | 0 => 0
  | k + 1 => 31 * (31 * pr f g k + (f k).toInt64) + (g (f k)).toInt64
theorem d_pr {ι : iS} {S P : Nat} (hS : gI ι 2 2 = nI S) (h8 : S ≤ 8) (hP : P ≤ 16) (ho : ∀ k, k < S → ∃ p, gI ι 7 k = nI p ∧ p < P) : ∀ d k n, k + d = S → d < n → l_X6_print_4 n (pr (gI ι 7) (fun x => gI ι 8 x.toNatClampNeg) k) (nI k) ι = some (31 * pr (gI ι 7) (fun x => gI ι 8 x.toNatClampNeg) S + (gI ι 6 1).toInt64, ι) := by
  intro d
  induction d with
  | zero =>
    intro k n hk hn
    obtain ⟨n, rfl⟩ : ∃ m, n = m + 1 := ⟨n - 1, by omega⟩
    obtain rfl : k = S := by omega
    rw [l_X6_print_4, hS, if_pos (Int32.le_refl _)]
  | succ d ih =>
    intro k n hk hn
    obtain ⟨n, rfl⟩ : ∃ m, n = m + 1 := ⟨n - 1, by omega⟩
    obtain ⟨p, hp, hpP⟩ := ho k (by omega)
    rw [l_X6_print_4, hS, if_neg (nI_ge (by omega) (by omega)), if_pos (aIn_nI (by omega) (by omega)), nI_clamp (by omega), if_pos (by rw [hp]; exact aIn_nI (by omega) (by omega)), nI_1]
    exact ih (k + 1) n (by omega) (by omega)
theorem m_pr {ι : iS} {S P : Nat} (hS : gI ι 112 3 = nI S) (h8 : S ≤ 8) (hP : P ≤ 16) (ho : ∀ k, k < S → ∃ p, gI ι 112 (99 + k) = nI p ∧ p < P) : ∀ d k n, k + d = S → d < n → l_X7_print_9 n (pr (fun k => gI ι 112 (99 + k)) (fun x => gI ι 112 (107 + x.toNatClampNeg)) k) (nI k) ι = some (31 * pr (fun k => gI ι 112 (99 + k)) (fun x => gI ι 112 (107 + x.toNatClampNeg)) S + (gI ι 112 5).toInt64, ι) := by
  intro d
  induction d with
  | zero =>
    intro k n hk hn
    obtain ⟨n, rfl⟩ : ∃ m, n = m + 1 := ⟨n - 1, by omega⟩
    obtain rfl : k = S := by omega
    rw [l_X7_print_9, hS, if_pos (Int32.le_refl _)]
  | succ d ih =>
    intro k n hk hn
    obtain ⟨n, rfl⟩ : ∃ m, n = m + 1 := ⟨n - 1, by omega⟩
    obtain ⟨p, hp, hpP⟩ := ho k (by omega)
    have e1 : ((107 : Int32) + gI ι 112 (99 + k)).toNatClampNeg = 107 + (gI ι 112 (99 + k)).toNatClampNeg := by
      rw [hp, show (107 : Int32) + nI p = nI (107 + p) from nI_add 107 p, nI_clamp (by omega), nI_clamp (by omega)]
    rw [l_X7_print_9, hS, if_neg (nI_ge (by omega) (by omega)), show (99 : Int32) + nI k = nI (99 + k) from nI_add 99 k, if_pos (aIn_nI (by omega) (by omega)), if_pos (aIn_nI (by omega) (by omega)), nI_clamp (by omega), if_pos (by rw [hp, show (107 : Int32) + nI p = nI (107 + p) from nI_add 107 p]; exact aIn_nI (by omega) (by omega)), e1, nI_1]
    exact ih (k + 1) n (by omega) (by omega)
theorem pr_ext {f f' : Nat → Int32} {g g' : Int32 → Int32} {n : Nat} (h : ∀ k, k < n → f k = f' k ∧ g (f k) = g' (f' k)) : pr f g n = pr f' g' n := by
  induction n with
  | zero => rfl
  | succ n ih =>
    show 31 * (31 * pr f g n + (f n).toInt64) + (g (f n)).toInt64 = 31 * (31 * pr f' g' n + (f' n).toInt64) + (g' (f' n)).toInt64
    rw [ih (fun k hk => h k (by omega)), (h n (by omega)).2, (h n (by omega)).1]
theorem ok_print {ι : iS} (h : Inv ι) : OkP (m_X6_print ι) m_X7_print := by
  obtain ⟨⟨T, P, S, F, ⟨⟨hT, hP, hS⟩, ⟨⟨b0, r0⟩, ⟨b1, r1⟩, ⟨b2, r2⟩⟩, hset, hval, htold, hord, hinj, hmock⟩, hcod, hmt⟩, -⟩ := id h
  have e := d_pr (ι := ι) (S := S) (P := P) b2 hS hP.2 (fun k hk => by rw [show gI ι 7 k = gI ι 112 (99 + k) from (hord k hk).1]; exact (hord k hk).2) S 0 aF (by omega) (by unfold aF; omega)
  have e2 := m_pr (ι := pI ι 109 0 0) (S := S) (P := P) r2 hS hP.2 (fun k hk => (hord k hk).2) S 0 aF (by omega) (by unfold aF; omega)
  refine ⟨_, ι, pI ι 109 0 0, e, ?_, Inv_sm ((Sm.rf ι).pI scr_t) h⟩
  refine e2.trans ?_
  rw [show gI ι 6 1 = gI ι 112 5 from (hset 1 (by omega)).1]
  have e3 : pr (fun k => gI (pI ι 109 0 0) 112 (99 + k)) (fun x => gI (pI ι 109 0 0) 112 (107 + x.toNatClampNeg)) S = pr (gI ι 7) (fun x => gI ι 8 x.toNatClampNeg) S := by
    refine pr_ext (fun k hk => ⟨(hord k hk).1.symm, ?_⟩)
    obtain ⟨p, hp, hpP⟩ := (hord k hk).2
    show gI ι 112 (107 + (gI ι 112 (99 + k)).toNatClampNeg) = gI ι 8 (gI ι 7 k).toNatClampNeg
    rw [show gI ι 7 k = gI ι 112 (99 + k) from (hord k hk).1, hp, nI_clamp (by omega)]
    exact (hmock p (by omega)).1.symm
  rw [e3]
  rfl
