theorem m_told_loop {ι : iS} {y : Int32} : ∀ d k n, k + d = 16 → d < n → l_X7_told_35 n y (ms (fun p => gI ι 112 (107 + p)) k) (nI k) ι = l_X7_told_35 1 y (ms (fun p => gI ι 112 (107 + p)) 16) 16 ι := by
  intro d
  induction d with
  | zero =>
    intro k n hk hn
    obtain ⟨n, rfl⟩ : ∃ m, n = m + 1 := ⟨n - 1, by omega⟩
    obtain rfl : k = 16 := by omega
    rw [l_X7_told_35, l_X7_told_35, if_pos (show (16 : Int32) ≤ nI 16 by decide), if_pos (show (16 : Int32) ≤ 16 by decide)]
  | succ d ih =>
    intro k n hk hn
    obtain ⟨n, rfl⟩ : ∃ m, n = m + 1 := ⟨n - 1, by omega⟩
    rw [l_X7_told_35, if_neg (show ¬ (16 : Int32) ≤ nI k from nI_ge (a := k) (b := 16) (by omega) (by omega)), show (107 : Int32) + nI k = nI (107 + k) from nI_add 107 k, if_pos (aIn_nI (by omega) (by omega)), nI_clamp (by omega), nI_1]
    exact ih (k + 1) n (by omega) (by omega)
theorem ok_told {ι : iS} (h : Inv ι) (x : Int32) : Ok32 (w_told x ι) (m_X7_told x) := by
  obtain ⟨⟨T, P, S, F, ⟨⟨hT, hP, hS⟩, ⟨⟨b0, r0⟩, ⟨b1, r1⟩, ⟨b2, r2⟩⟩, hset, hval, htold, hord, hinj, hmock⟩, hcod, hmt⟩, ⟨n, hn, tp1, tp2, -⟩, ⟨-, a, ha, ac1, ac2, -⟩, -⟩ := id h
  by_cases hx : x < 0 ∨ 9 < x
  · refine ok_refuse h (e := 1) (c := 1) (v := 0) (by omega) i10 ?_ ?_
    · unfold w_told m_X6_told
      rw [d_nr_n hx]
      rfl
    · unfold m_X7_told
      rw [m_in_n hx, Option.bind_some]
      dsimp only
      rw [if_pos rfl, show m_X7_bad 1 1 1 = m_X7_bad 1 1 (nI 1) from rfl, m_bad_1 (e := 1) (hc := i10) (he := by omega)]
      · rfl
      · rfl
  · obtain ⟨hx1, hx2⟩ := not_or.mp hx
    obtain ⟨j, hj, rfl⟩ := nI_of2 (n := 9) (M := 9) rfl hx1 (Int32.not_lt.mp hx2)
    have b0 : gI ι 2 0 = nI T := b0
    have b1 : gI ι 2 1 = nI P := b1
    have b2 : gI ι 2 2 = nI S := b2
    have s0 : gI ι 6 0 = gI ι 112 4 := (hset 0 (by omega)).1
    have s1 : gI ι 6 1 = gI ι 112 5 := (hset 1 (by omega)).1
    have s2 : gI ι 6 2 = gI ι 112 6 := (hset 2 (by omega)).1
    have s3 : gI ι 6 3 = gI ι 112 7 := (hset 3 (by omega)).1
    have hms : ms (gI ι 8) P = ms (fun p => gI ι 112 (107 + p)) 16 := by
      rw [ms_ext (f := gI ι 8) (g := fun p => gI ι 112 (107 + p)) (fun k hk => (hmock k (by omega)).1)]
      have := ms_zero (f := fun p => gI ι 112 (107 + p)) (P := P) (fun k h1 h2 => by
        obtain ⟨c, hc, -, h0⟩ := (hmock k h2).2
        show gI ι 112 (107 + k) = 0
        rw [hc, h0 h1]; rfl) (16 - P) (by omega)
      rw [← this, show P + (16 - P) = 16 by omega]
    have dP := d_ms (ι := ι) (o := 2) b1 hP.2 P 0 aF (by omega) (by unfold aF; omega)
    refine ok_ask h (v := [nI T, nI P, nI S, gI ι 112 4, gI ι 112 5, gI ι 112 6, gI ι 112 7, ms (gI ι 8) P, nI n, nI a].getD j 0) ?_ ?_
    · unfold w_told m_X6_told
      rw [d_nr_y hx1 hx2, Option.bind_some]
      dsimp only
      rcases (show j = 0 ∨ j = 1 ∨ j = 2 ∨ j = 3 ∨ j = 4 ∨ j = 5 ∨ j = 6 ∨ j = 7 ∨ j = 8 ∨ j = 9 by omega) with rfl | rfl | rfl | rfl | rfl | rfl | rfl | rfl | rfl | rfl
      · rw [if_pos (by decide), b0]; rfl
      · rw [if_neg (by decide), if_pos (by decide), b1]; rfl
      · rw [if_neg (by decide), if_neg (by decide), if_pos (by decide), b2]; rfl
      · rw [if_neg (by decide), if_neg (by decide), if_neg (by decide), if_pos (by decide), if_pos (by decide), show (nI 3 - 3).toNatClampNeg = 0 by decide, s0]; rfl
      · rw [if_neg (by decide), if_neg (by decide), if_neg (by decide), if_neg (by decide), if_pos (by decide), if_pos (by decide), show (nI 4 - 3).toNatClampNeg = 1 by decide, s1]; rfl
      · rw [if_neg (by decide), if_neg (by decide), if_neg (by decide), if_neg (by decide), if_neg (by decide), if_pos (by decide), if_pos (by decide), show (nI 5 - 3).toNatClampNeg = 2 by decide, s2]; rfl
      · rw [if_neg (by decide), if_neg (by decide), if_neg (by decide), if_neg (by decide), if_neg (by decide), if_neg (by decide), if_pos (by decide), if_pos (by decide), show (nI 6 - 3).toNatClampNeg = 3 by decide, s3]; rfl
      · rw [if_neg (by decide), if_neg (by decide), if_neg (by decide), if_neg (by decide), if_neg (by decide), if_neg (by decide), if_neg (by decide), if_pos (by decide), show m_X2_allMockPicks 2 ι = some (ms (gI ι 8) P, ι) from dP]; rfl
      · rw [if_neg (by decide), if_neg (by decide), if_neg (by decide), if_neg (by decide), if_neg (by decide), if_neg (by decide), if_neg (by decide), if_neg (by decide), if_pos (by decide), tp1]; rfl
      · rw [if_neg (by decide), if_neg (by decide), if_neg (by decide), if_neg (by decide), if_neg (by decide), if_neg (by decide), if_neg (by decide), if_neg (by decide), if_neg (by decide), if_pos (by decide), ac1]; rfl
    · unfold m_X7_told
      rw [m_in_y hx1 hx2, Option.bind_some]
      dsimp only
      rw [if_neg i10, m_bad_0, Option.bind_some]
      · dsimp only
        rw [if_pos rfl]
        have e := m_told_loop (ι := pI (pJ ι 125 0 ([nI T, nI P, nI S, gI ι 112 4, gI ι 112 5, gI ι 112 6, gI ι 112 7, ms (gI ι 8) P, nI n, nI a].getD j 0).toInt64) 109 0 0) (y := nI j) 16 0 aF (by omega) (by unfold aF; omega)
        refine e.trans ?_
        rw [l_X7_told_35, if_pos (by decide)]
        rcases (show j = 0 ∨ j = 1 ∨ j = 2 ∨ j = 3 ∨ j = 4 ∨ j = 5 ∨ j = 6 ∨ j = 7 ∨ j = 8 ∨ j = 9 by omega) with rfl | rfl | rfl | rfl | rfl | rfl | rfl | rfl | rfl | rfl
        · rw [if_pos (by decide)]
          exact congrArg some (Prod.ext r0 rfl)
        · rw [if_neg (by decide), if_pos (by decide)]
          refine congrArg some (Prod.ext ?_ rfl)
          show (1 : Int32) + gI ι 112 1 = nI P
          rw [r1, show (1 : Int32) + nI (P - 1) = nI (1 + (P - 1)) from nI_add 1 _, show 1 + (P - 1) = P by omega]
        · rw [if_neg (by decide), if_neg (by decide), if_pos (by decide)]
          exact congrArg some (Prod.ext r2 rfl)
        · rw [if_neg (by decide), if_neg (by decide), if_neg (by decide), if_pos (by decide), if_pos (by decide), show ((4 : Int32) + nI 3 - 3).toNatClampNeg = 4 by decide]; rfl
        · rw [if_neg (by decide), if_neg (by decide), if_neg (by decide), if_neg (by decide), if_pos (by decide), if_pos (by decide), show ((4 : Int32) + nI 4 - 3).toNatClampNeg = 5 by decide]; rfl
        · rw [if_neg (by decide), if_neg (by decide), if_neg (by decide), if_neg (by decide), if_neg (by decide), if_pos (by decide), if_pos (by decide), show ((4 : Int32) + nI 5 - 3).toNatClampNeg = 6 by decide]; rfl
        · rw [if_neg (by decide), if_neg (by decide), if_neg (by decide), if_neg (by decide), if_neg (by decide), if_neg (by decide), if_pos (by decide), if_pos (by decide), show ((4 : Int32) + nI 6 - 3).toNatClampNeg = 7 by decide]; rfl
        · rw [if_neg (by decide), if_neg (by decide), if_neg (by decide), if_neg (by decide), if_neg (by decide), if_neg (by decide), if_neg (by decide), if_pos (by decide)]
          exact congrArg some (Prod.ext hms.symm rfl)
        · rw [if_neg (by decide), if_neg (by decide), if_neg (by decide), if_neg (by decide), if_neg (by decide), if_neg (by decide), if_neg (by decide), if_neg (by decide), if_pos (by decide)]
          exact congrArg some (Prod.ext tp2 rfl)
        · rw [if_neg (by decide), if_neg (by decide), if_neg (by decide), if_neg (by decide), if_neg (by decide), if_neg (by decide), if_neg (by decide), if_neg (by decide), if_neg (by decide), if_pos (by decide)]
          exact congrArg some (Prod.ext ac2 rfl)
      · rfl
/-- which traits are alike, up to t -/
def alk (r : Nat → Int32) (p q : Nat) : Nat → Int32
  | 0 => 0
  | t + 1 => if r (9 + 5 * p + t) = r (9 + 5 * q + t) then alk r p q t ||| (1 : Int32) <<< (nI t &&& 31) else alk r p q t
theorem d_alk {ι : iS} {r : Nat → Int32} {T P p q : Nat} (hB : gI ι 2 0 = nI T) (hT : T ≤ 5) (hP : P ≤ 16) (hp : p < P) (hq : q < P) (hv : ∀ p, p < P → ∀ t, t < T → gI ι 3 (5 * p + t) = r (9 + 5 * p + t)) : ∀ d k n, k + d = T → d < n → l_X6_alike_15 n (nI p) (nI q) (alk r p q k) (nI k) ι = some (.inr (alk r p q T, ι)) := by
  intro d
  induction d with
  | zero =>
    intro k n hk hn
    obtain ⟨n, rfl⟩ : ∃ m, n = m + 1 := ⟨n - 1, by omega⟩
    obtain rfl : k = T := by omega
    rw [l_X6_alike_15, hB, if_pos (Int32.le_refl _)]
  | succ d ih =>
    intro k n hk hn
    obtain ⟨n, rfl⟩ : ∃ m, n = m + 1 := ⟨n - 1, by omega⟩
    rw [l_X6_alike_15, hB, if_neg (nI_ge (by omega) (by omega)), d_val (by omega) (by omega), Option.bind_some]
    dsimp only
    rw [d_val (by omega) (by omega), Option.bind_some]
    dsimp only
    rw [show gI ι (2 + 1) (5 * p + k) = r (9 + 5 * p + k) from hv p hp k (by omega), show gI ι (2 + 1) (5 * q + k) = r (9 + 5 * q + k) from hv q hq k (by omega), nI_1]
    have ih := ih (k + 1) n (by omega) (by omega)
    rw [alk] at ih
    by_cases he : r (9 + 5 * p + k) = r (9 + 5 * q + k)
    · rw [if_pos he] at ih ⊢; exact ih
    · rw [if_neg he] at ih ⊢; exact ih
theorem m_alk {ι : iS} {T P p q : Nat} (hB : gI ι 112 0 = nI T) (hT : T ≤ 5) (hP : P ≤ 16) (hp : p < P) (hq : q < P) : ∀ d k n, k + d = T → d < n → l_X7_alike_42 n (nI p) (nI q) (alk (gI ι 112) p q k) (nI k) ι = some (alk (gI ι 112) p q T, ι) := by
  intro d
  induction d with
  | zero =>
    intro k n hk hn
    obtain ⟨n, rfl⟩ : ∃ m, n = m + 1 := ⟨n - 1, by omega⟩
    obtain rfl : k = T := by omega
    rw [l_X7_alike_42, hB, if_pos (Int32.le_refl _)]
  | succ d ih =>
    intro k n hk hn
    obtain ⟨n, rfl⟩ : ∃ m, n = m + 1 := ⟨n - 1, by omega⟩
    rw [l_X7_alike_42, hB, if_neg (nI_ge (by omega) (by omega)), m_val (by omega) (by omega), Option.bind_some]
    dsimp only
    rw [m_val (by omega) (by omega), Option.bind_some]
    dsimp only
    rw [nI_1]
    have ih := ih (k + 1) n (by omega) (by omega)
    rw [alk] at ih
    by_cases he : gI ι 112 (9 + 5 * p + k) = gI ι 112 (9 + 5 * q + k)
    · rw [if_pos he] at ih ⊢; exact ih
    · rw [if_neg he] at ih ⊢; rw [Int32.or_zero]; exact ih
theorem ok_alike {ι : iS} (h : Inv ι) (x y : Int32) : Ok32 (w_alike x y ι) (m_X7_alike x y) := by
  obtain ⟨⟨T, P, S, F, ⟨⟨hT, hP, hS⟩, ⟨⟨b0, r0⟩, ⟨b1, r1⟩, ⟨b2, r2⟩⟩, hset, hval, htold, hord, hinj, hmock⟩, hcod, hmt⟩, -⟩ := id h
  have b1 : gI ι 2 1 = nI P := b1
  have b0 : gI ι 2 0 = nI T := b0
  rcases (show (x < 0 ∨ nI P ≤ x) ∨ ∃ j : Nat, j < P ∧ x = nI j from or_assoc.mpr (pk_ix x (n := P) (by omega))) with hx | ⟨p, hp, rfl⟩
  · refine ok_refuse h (e := 0) (c := 1) (v := 0) (by omega) i10 ?_ ?_
    · unfold w_alike m_X6_alike
      rw [d_np_x b1 hx]
      rfl
    · unfold m_X7_alike
      rw [m_isPerson_x (P := P) (h := hx) (hP := hP), Option.bind_some]
      · dsimp only
        rw [if_pos rfl, show m_X7_bad 1 1 0 = m_X7_bad 1 1 (nI 0) from rfl, m_bad_1 (e := 0) (hc := i10) (he := by omega)]
        · rfl
        · rfl
      · exact r1
  rcases (show (y < 0 ∨ nI P ≤ y) ∨ ∃ t : Nat, t < P ∧ y = nI t from or_assoc.mpr (pk_ix y (n := P) (by omega))) with hy | ⟨q, hq, rfl⟩
  · refine ok_refuse h (e := 0) (c := 1) (v := 0) (by omega) i10 ?_ ?_
    · unfold w_alike m_X6_alike
      rw [d_np_j b1 hp (by omega), Option.bind_some]
      dsimp only
      rw [d_np_x b1 hy]
      rfl
    · unfold m_X7_alike
      rw [m_isPerson_j (P := P) (h := hp) (hP := hP.2), Option.bind_some]
      · dsimp only
        rw [if_neg i10, m_isPerson_x (P := P) (h := hy) (hP := hP), Option.bind_some]
        · dsimp only
          rw [if_pos rfl, show m_X7_bad 1 1 0 = m_X7_bad 1 1 (nI 0) from rfl, m_bad_1 (e := 0) (hc := i10) (he := by omega)]
          · rfl
          · rfl
        · exact r1
      · exact r1
  · refine ok_ask h (v := alk (gI ι 112) p q T) ?_ ?_
    · unfold w_alike m_X6_alike
      rw [d_np_j b1 hp (by omega), Option.bind_some]
      dsimp only
      rw [d_np_j b1 hq (by omega), Option.bind_some]
      dsimp only
      have e := d_alk (ι := ι) (r := gI ι 112) b0 hT.2 hP.2 hp hq (fun p hp t ht => (hval p hp t ht).1) T 0 aF (by omega) (by unfold aF; omega)
      rw [show l_X6_alike_15 aF (nI p) (nI q) 0 0 ι = some (.inr (alk (gI ι 112) p q T, ι)) from e]
      rfl
    · unfold m_X7_alike
      rw [m_isPerson_j (P := P) (h := hp) (hP := hP.2), Option.bind_some]
      · dsimp only
        rw [if_neg i10, m_isPerson_j (P := P) (h := hq) (hP := hP.2), Option.bind_some]
        · dsimp only
          rw [if_neg i10, m_bad_0, Option.bind_some]
          · dsimp only
            rw [if_pos rfl]
            exact m_alk (ι := pI (pJ ι 125 0 (alk (gI ι 112) p q T).toInt64) 109 0 0) (T := T) r0 hT.2 hP.2 hp hq T 0 aF (by omega) (by unfold aF; omega)
          · rfl
        · exact r1
      · exact r1
