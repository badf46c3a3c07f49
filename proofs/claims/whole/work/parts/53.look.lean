/-! what a witness feels of those who are shown -/
theorem l32_small : ∀ n, n < 100 → (lN n).toInt32 = nI n := by decide
theorem mt_rng (r : Nat → Int32) (T : Nat) (F : List (Nat × Nat)) (p : Nat) (g : Int32) : ∃ a, mt r T F p g = nI a ∧ a ≤ 99 := by
  unfold mt
  generalize (if F = [] then rPlain r p g T else rRun r p g F) = v
  by_cases h1 : v < 0
  · rw [if_pos h1]; exact ⟨0, rfl, by omega⟩
  · rw [if_neg h1]
    by_cases h2 : v ≤ 99
    · rw [if_pos h2]
      obtain ⟨k, hk, rfl⟩ := pk_lOf h1
      have : k ≤ 99 := (pk_lLE (a := k) (b := 99) hk (by omega)).mp h2
      exact ⟨k, l32_small k (by omega), this⟩
    · rw [if_neg h2]; exact ⟨99, rfl, by omega⟩
def mid (r : Nat → Int32) (T : Nat) (F : List (Nat × Nat)) (g b : Int32) (k : Nat) : Nat := (mt r T F (r (99 + k)).toNatClampNeg g).toNatClampNeg + (if r (99 + k) = 0 then if b = 0 then (r 6).toNatClampNeg else 0 else 0)
theorem mid_eq {r : Nat → Int32} {T : Nat} {F : List (Nat × Nat)} {g b : Int32} {k p a nd : Nat} (h1 : r (99 + k) = nI p) (hp : p < 16) (h2 : mt r T F p g = nI a) (ha : a ≤ 99) (h6 : r 6 = nI nd) (hn : nd ≤ 20) : mid r T F g b k = a + (if nI p = 0 then if b = 0 then nd else 0 else 0) := by
  unfold mid
  rw [h1, nI_clamp (by omega), h2, nI_clamp (by omega), h6, nI_clamp (by omega)]
theorem mid_le {r : Nat → Int32} {T : Nat} {F : List (Nat × Nat)} {g b : Int32} {k p nd : Nat} (h1 : r (99 + k) = nI p) (hp : p < 16) (h6 : r 6 = nI nd) (hn : nd ≤ 20) : mid r T F g b k ≤ 119 := by
  obtain ⟨a, h2, ha⟩ := mt_rng r T F p g
  rw [mid_eq h1 hp h2 ha h6 hn]
  by_cases q1 : nI p = 0
  · rw [if_pos q1]
    by_cases q2 : b = 0
    · rw [if_pos q2]; omega
    · rw [if_neg q2]; omega
  · rw [if_neg q1]; omega
theorem d_look_loop {ι : iS} {o T S nd : Nat} {F : List (Nat × Nat)} {r : Nat → Int32} (ho : 11 ≤ o) (hS : S ≤ 8) (g b : Int32) (h7 : ∀ k, k < S → gI ι 7 k = r (99 + k) ∧ ∃ p, r (99 + k) = nI p ∧ p < 16 ∧ (if g = 0 then gI ι 9 p else gI ι 10 p) = mt r T F p g) (h62 : gI ι 6 2 = nI nd) (h6 : r 6 = nI nd) (hn : nd ≤ 20) :
    ∀ d k n κ, k + d = S → d < n → gI κ o 2 = nI S → (∀ y i, y < 11 → gI κ y i = gI ι y i) → ∃ ι', l_X5_look_43 o 2 n g b (nI k) κ = some ι' ∧ (∀ i, k ≤ i → i < S → gI ι' (o + 1) i = nI (mid r T F g b i)) ∧ (∀ y i, ¬ (y = o + 1 ∧ k ≤ i) → gI ι' y i = gI κ y i) ∧ gJ ι' = gJ κ ∧ gP ι' = gP κ := by
  intro d
  induction d with
  | zero =>
    intro k n κ hk hn2 h2 hκ
    obtain ⟨n, rfl⟩ : ∃ m, n = m + 1 := ⟨n - 1, by omega⟩
    obtain rfl : k = S := by omega
    refine ⟨κ, ?_, fun i q1 q2 => by omega, fun _ _ _ => rfl, rfl, rfl⟩
    rw [l_X5_look_43, h2, if_pos (Int32.le_refl _)]
  | succ d ih =>
    intro k n κ hk hn2 h2 hκ
    obtain ⟨n, rfl⟩ : ∃ m, n = m + 1 := ⟨n - 1, by omega⟩
    obtain ⟨e7, p, hp, hp16, hm⟩ := h7 k (by omega)
    obtain ⟨a, ha, ha9⟩ := mt_rng r T F p g
    have hmid := mid_eq (b := b) hp hp16 ha ha9 h6 hn
    obtain ⟨ι', e1, e2, e3, e4, e5⟩ := ih (k + 1) n (pI κ (o + 1) k (nI (mid r T F g b k))) (by omega) (by omega) ((gI_p2 _ _ (by omega)).trans h2) (fun y i q => by rw [gI_p2 _ _ (by omega)]; exact hκ y i q)
    have hmo : m_X2_matchOf 2 (nI p) g κ = some (nI a, κ) := by
      unfold m_X2_matchOf
      rw [if_pos (aIn_nI hp16 (by omega)), if_pos (aIn_nI hp16 (by omega)), nI_clamp (by omega)]
      by_cases hg : g = 0
      · rw [if_pos hg] at hm ⊢
        rw [hκ _ _ (by omega), hm, ha]
      · rw [if_neg hg] at hm ⊢
        rw [hκ _ _ (by omega), hm, ha]
    refine ⟨ι', ?_, fun i q1 q2 => ?_, fun y i q => by rw [e3 y i (by omega), gI_p2 _ _ (by omega)], e4, e5⟩
    · rw [l_X5_look_43, h2, if_neg (nI_ge (by omega) (by omega)), if_pos (aIn_nI (by omega) (by omega)), nI_clamp (by omega), nI_1, show gI κ (2 + 5) k = nI p from ((hκ 7 k (by omega)).trans e7).trans hp, hmo]
      simp only [Option.bind_some, if_pos (aIn_nI (show k < 8 by omega) (by omega)), show gI κ (2 + 4) 2 = nI nd from (hκ 6 2 (by omega)).trans h62]
      rw [hmid] at e1
      by_cases q1 : nI p = 0
      · rw [if_pos q1] at e1 ⊢
        by_cases q2 : b = 0
        · rw [if_pos q2] at e1 ⊢
          rw [nI_add]
          exact e1
        · rw [if_neg q2] at e1 ⊢
          rw [Int32.add_zero]
          exact e1
      · rw [if_neg q1] at e1 ⊢
        rw [Int32.add_zero]
        exact e1
    · by_cases hik : i = k
      · subst hik
        rw [e3 _ _ (by omega), gI_p1]
      · exact e2 i (by omega) q2
/-- the witness stands ready: its line, its people, its noise, its width, what it feels -/
def WR (ι : iS) (o S z c : Nat) (m : Nat → Nat) : Prop := gI ι o 0 = nI c ∧ gI ι o 2 = nI S ∧ gI ι o 3 = nI z ∧ gI ι o 4 = nI (2 * z + 1) ∧ ∀ k, k < S → gI ι (o + 1) k = nI (m k)
theorem d_look {ι : iS} {o T S z c nd : Nat} {F : List (Nat × Nat)} {r : Nat → Int32} (ho : 31 ≤ o) (hS : S ≤ 8) (g b : Int32) (hS2 : gI ι 2 2 = nI S) (h60 : gI ι 6 0 = nI z) (h61 : gI ι 6 1 = nI c) (h7 : ∀ k, k < S → gI ι 7 k = r (99 + k) ∧ ∃ p, r (99 + k) = nI p ∧ p < 16 ∧ (if g = 0 then gI ι 9 p else gI ι 10 p) = mt r T F p g) (h62 : gI ι 6 2 = nI nd) (h6 : r 6 = nI nd) (hn : nd ≤ 20) :
    ∃ ι', m_X5_look o 2 g b ι = some ι' ∧ WR ι' o S z c (mid r T F g b) ∧ (∀ y i, y ≠ o → y ≠ o + 1 → gI ι' y i = gI ι y i) ∧ gJ ι' = gJ ι ∧ gP ι' = gP ι := by
  obtain ⟨κ, hκ⟩ : ∃ κ, κ = pI (pI (pI (pI ι o 2 (nI S)) o 3 (nI z)) o 4 (nI (2 * z + 1))) o 0 (nI c) := ⟨_, rfl⟩
  have k1 : ∀ y i, y ≠ o → gI κ y i = gI ι y i := fun y i q => by rw [hκ, gI_p2 _ _ (by omega), gI_p2 _ _ (by omega), gI_p2 _ _ (by omega), gI_p2 _ _ (by omega)]
  have k2 : gI κ o 2 = nI S := by rw [hκ, gI_p2 _ _ (by omega), gI_p2 _ _ (by omega), gI_p2 _ _ (by omega), gI_p1]
  obtain ⟨ι', e1, e2, e3, e4, e5⟩ := d_look_loop (ι := ι) (o := o) (T := T) (F := F) (r := r) (by omega) hS g b h7 h62 h6 hn S 0 aF κ (by omega) (by unfold aF; omega) k2 (fun y i q => k1 y i (by omega))
  refine ⟨ι', ?_, ⟨?_, ?_, ?_, ?_, fun k hk => e2 k (by omega) hk⟩, fun y i q1 q2 => by rw [e3 _ _ (by omega), k1 _ _ q1], by rw [e4, hκ]; rfl, by rw [e5, hκ]; rfl⟩
  · unfold m_X5_look
    have eκ : (pI (pI (pI (pI ι o 2 (gI ι 2 2)) o 3 (gI (pI ι o 2 (gI ι 2 2)) (2 + 4) 0)) o 4 (((2 : Int32) * (gI (pI (pI ι o 2 (gI ι 2 2)) o 3 (gI (pI ι o 2 (gI ι 2 2)) (2 + 4) 0)) o 3)) + (1 : Int32))) o 0 (gI (pI (pI (pI ι o 2 (gI ι 2 2)) o 3 (gI (pI ι o 2 (gI ι 2 2)) (2 + 4) 0)) o 4 (((2 : Int32) * (gI (pI (pI ι o 2 (gI ι 2 2)) o 3 (gI (pI ι o 2 (gI ι 2 2)) (2 + 4) 0)) o 3)) + (1 : Int32))) (2 + 4) 1)) = κ := by
      rw [hκ, hS2, gI_p1, gI_p2 (x := 2 + 4) (y := 0) _ _ (by omega), gI_p2 (x := 2 + 4) (y := 1) _ _ (by omega), gI_p2 (x := 2 + 4) (y := 1) _ _ (by omega), gI_p2 (x := 2 + 4) (y := 1) _ _ (by omega), show gI ι (2 + 4) 0 = nI z from h60, show gI ι (2 + 4) 1 = nI c from h61, show (2 : Int32) * nI z = nI (2 * z) from pk_mul 2 z, nI_1]
    rw [eκ]
    exact e1
  · rw [e3 _ _ (by omega), hκ, gI_p1]
  · rw [e3 _ _ (by omega), k2]
  · rw [e3 _ _ (by omega), hκ, gI_p2 _ _ (by omega), gI_p2 _ _ (by omega), gI_p1]
  · rw [e3 _ _ (by omega), hκ, gI_p2 _ _ (by omega), gI_p1]
/-- .. and the reference's -/
def FS (ι ι' : iS) : Prop := (∀ y i, y ≠ 124 → gI ι' y i = gI ι y i) ∧ gP ι' = gP ι ∧ ∀ y i, y ≠ 123 → gJ ι' y i = gJ ι y i
theorem FS.rf (ι : iS) : FS ι ι := ⟨fun _ _ _ => rfl, rfl, fun _ _ _ => rfl⟩
theorem FS.tr {a b c : iS} (h1 : FS a b) (h2 : FS b c) : FS a c := ⟨fun y i q => (h2.1 y i q).trans (h1.1 y i q), h2.2.1.trans h1.2.1, fun y i q => (h2.2.2 y i q).trans (h1.2.2 y i q)⟩
theorem FS.sm {a b : iS} (h : FS a b) : Sm a b := ⟨fun o k q => h.1 o k (fun z => by rw [z] at q; revert q; unfold scr; simp), fun k => by rw [h.2.1]⟩
theorem FS.row {a b : iS} (h : FS a b) : gI b 112 = gI a 112 := funext fun k => h.1 _ _ (by omega)
theorem m_feels_loop {T S nd : Nat} {F : List (Nat × Nat)} (hT : T ≤ 5) (hS : S ≤ 8) (g b : Int32) (r : Nat → Int32) (h0 : r 0 = nI T) (h3 : r 3 = nI S) (hc : Coded r T F) (h7 : ∀ k, k < S → ∃ p, r (99 + k) = nI p ∧ p < 16) (h6 : r 6 = nI nd) (hn : nd ≤ 20) :
    ∀ d k n κ, k + d = S → d < n → gI κ 112 = r → ∃ ι', l_X7_feels_2 n g b (nI k) κ = some ι' ∧ (∀ i, k ≤ i → i < S → gI ι' 124 i = nI (mid r T F g b i)) ∧ (∀ i, i < k → gI ι' 124 i = gI κ 124 i) ∧ FS κ ι' := by
  intro d
  induction d with
  | zero =>
    intro k n κ hk hn2 hr
    obtain ⟨n, rfl⟩ : ∃ m, n = m + 1 := ⟨n - 1, by omega⟩
    obtain rfl : k = S := by omega
    refine ⟨κ, ?_, fun i q1 q2 => by omega, fun _ _ => rfl, FS.rf κ⟩
    rw [l_X7_feels_2, hr, h3, if_pos (Int32.le_refl _)]
  | succ d ih =>
    intro k n κ hk hn2 hr
    obtain ⟨n, rfl⟩ : ∃ m, n = m + 1 := ⟨n - 1, by omega⟩
    obtain ⟨p, hp, hp16⟩ := h7 k (by omega)
    obtain ⟨a, ha, ha9⟩ := mt_rng r T F p g
    have hmid := mid_eq (b := b) hp hp16 ha ha9 h6 hn
    obtain ⟨κ1, f1, f2⟩ := m_match (ι := κ) (p := p) (T := T) (F := F) hp16 hT (by rw [hr]; exact h0) (by rw [hr]; exact hc) g
    rw [hr, ha] at f1
    have hr1 : gI κ1 112 = r := by rw [f2.1]; exact hr
    obtain ⟨ι', e1, e2, e3, e4⟩ := ih (k + 1) n (pI κ1 124 k (nI (mid r T F g b k))) (by omega) (by omega) (by
      funext i
      rw [gI_p2 _ _ (by omega), hr1])
    refine ⟨ι', ?_, fun i q1 q2 => ?_, fun i q => by rw [e3 i (by omega), gI_p2 _ _ (by omega), f2.1], FS.tr (b := pI κ1 124 k (nI (mid r T F g b k))) ⟨fun y i q => by rw [gI_p2 _ _ (by omega), f2.1], f2.2.1, fun y i q => f2.2.2 y i q⟩ e4⟩
    · rw [l_X7_feels_2, hr, h3, if_neg (nI_ge (by omega) (by omega)), show (99 : Int32) + nI k = nI (99 + k) from nI_add 99 k, if_pos (aIn_nI (by omega) (by omega)), nI_clamp (n := 99 + k) (by omega), hp, f1, Option.bind_some, if_pos (aIn_nI (by omega) (by omega)), nI_1]
      dsimp only
      simp only [hr1, hp, h6, nI_clamp (show k < 2 ^ 31 by omega), if_pos (aIn_nI (show k < 8 by omega) (by omega))]
      rw [hmid] at e1
      by_cases q1 : nI p = 0
      · rw [if_pos q1] at e1 ⊢
        by_cases q2 : b = 0
        · rw [if_pos q2] at e1 ⊢
          rw [nI_add]
          exact e1
        · rw [if_neg q2] at e1 ⊢
          rw [Int32.add_zero]
          exact e1
      · rw [if_neg q1] at e1 ⊢
        rw [Int32.add_zero]
        exact e1
    · by_cases hik : i = k
      · subst hik
        rw [e3 _ (by omega), gI_p1]
      · exact e2 i (by omega) q2
theorem m_feels {ι : iS} {T S nd : Nat} {F : List (Nat × Nat)} (hT : T ≤ 5) (hS : S ≤ 8) (g b : Int32) (h0 : gI ι 112 0 = nI T) (h3 : gI ι 112 3 = nI S) (hc : Coded (gI ι 112) T F) (h7 : ∀ k, k < S → ∃ p, gI ι 112 (99 + k) = nI p ∧ p < 16) (h6 : gI ι 112 6 = nI nd) (hn : nd ≤ 20) :
    ∃ ι', m_X7_feels g b ι = some ι' ∧ (∀ i, i < S → gI ι' 124 i = nI (mid (gI ι 112) T F g b i)) ∧ FS ι ι' := by
  obtain ⟨ι', e1, e2, -, e4⟩ := m_feels_loop hT hS g b (gI ι 112) h0 h3 hc h7 h6 hn S 0 aF ι (by omega) (by unfold aF; omega) rfl
  exact ⟨ι', e1, fun i hi => e2 i (by omega) hi, e4⟩
theorem ok_match {ι : iS} (h : Inv ι) (x g : Int32) (hg : g = 0 ∨ g = 1) : Ok32 (w_match x g ι) (m_X7_match x g) := by
  obtain ⟨⟨T, P, S, F, ⟨⟨hT, hP, hS⟩, ⟨⟨b0, r0⟩, ⟨b1, r1⟩, ⟨b2, r2⟩⟩, hset, hval, htold, hord, hinj, hmock⟩, hcod, hmt⟩, -⟩ := id h
  have b1 : gI ι 2 1 = nI P := b1
  rcases (show (x < 0 ∨ nI P ≤ x) ∨ ∃ j : Nat, j < P ∧ x = nI j from or_assoc.mpr (pk_ix x (n := P) (by omega))) with hx | ⟨j, hj, rfl⟩
  · refine ok_refuse h (e := 0) (c := 1) (v := 0) (by omega) i10 ?_ ?_
    · unfold w_match m_X6_match
      rw [d_np_x b1 hx]
      rfl
    · unfold m_X7_match
      rw [m_isPerson_x (P := P) (h := hx) (hP := hP), Option.bind_some]
      · dsimp only
        rw [if_pos rfl, show m_X7_bad 1 1 0 = m_X7_bad 1 1 (nI 0) from rfl, m_bad_1 (e := 0) (hc := i10) (he := by omega)]
        · rfl
        · rfl
      · exact r1
  · obtain ⟨κ, f1, f2⟩ := m_match (ι := pI (pJ ι 125 0 (mt (gI ι 112) T F j g).toInt64) 109 0 0) (p := j) (T := T) (F := F) (by omega) hT.2 r0 hcod g
    have hd : m_X2_matchOf 2 (nI j) g ι = some (mt (gI ι 112) T F j g, ι) := by
      unfold m_X2_matchOf
      rw [if_pos (aIn_nI (by omega) (by omega)), if_pos (aIn_nI (by omega) (by omega)), nI_clamp (by omega)]
      rcases hg with rfl | rfl
      · rw [if_pos rfl, show gI ι (2 + 7) j = _ from (hmt j hj).1]
      · rw [if_neg i10, show gI ι (2 + 8) j = _ from (hmt j hj).2]
    refine ok_ask2 h (ι1 := ι) (ι2 := κ) (v := mt (gI ι 112) T F j g) ?_ ?_ ?_ ?_ (Sm.tr ((Sm.rf ι).pJ.pI scr_t) f2.sm)
    · unfold w_match m_X6_match
      rw [d_np_j b1 hj (by omega), Option.bind_some]
      dsimp only
      rw [hd, Option.bind_some, Option.bind_some]
    · unfold m_X7_match
      rw [m_isPerson_j (P := P) (h := hj) (hP := hP.2), Option.bind_some]
      · dsimp only
        rw [if_neg i10, m_bad_0, Option.bind_some]
        · dsimp only
          rw [if_pos rfl, f1]
          rfl
        · rfl
      · exact r1
    · rw [f2.1, gI_p1]
    · rw [f2.2.2 _ _ (by omega)]
      rfl
