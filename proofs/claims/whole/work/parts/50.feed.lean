def chT (j : Nat) (x2 : Int32) (r71 : Int32 × iS) : Option (Int32 × iS) := if r71.1 = 0 then Option.bind (m_X7_remembers r71.2) fun r80 => if aIn ((4 : Int32) + nI j) 883 = true then if aIn ((4 : Int32) + nI j) 883 = true then some ((gI r80 112 ((4 : Int32) + nI j).toNatClampNeg), (pI r80 112 ((4 : Int32) + nI j).toNatClampNeg x2)) else none else none else some ((0 : Int32), r71.2)
theorem m_change_j {j : Nat} (hj : j < 4) (x2 : Int32) (ι0 : iS) : m_X7_change (nI j) x2 ι0 = Option.bind (m_X7_in x2 (aSt 0 j) (aSt 1 j) (pI ι0 109 0 0)) fun r58 => if r58.1 = 0 then Option.bind (m_X7_bad 1 1 1 r58.2) (chT j x2) else Option.bind (m_X7_bad 0 1 1 r58.2) (chT j x2) := by
  unfold m_X7_change
  rcases (show j = 0 ∨ j = 1 ∨ j = 2 ∨ j = 3 by omega) with rfl | rfl | rfl | rfl
  · rw [if_pos (by decide), m_in_y (by decide) (by decide), Option.bind_some]
    dsimp only
    rw [if_neg i10, if_neg (by decide)]
    rfl
  · rw [if_neg (by decide), if_pos (by decide), m_in_y (by decide) (by decide), Option.bind_some]
    dsimp only
    rw [if_neg i10, if_neg (by decide)]
    rfl
  · rw [if_neg (by decide), if_neg (by decide), if_pos (by decide), m_in_y (by decide) (by decide), Option.bind_some]
    dsimp only
    rw [if_neg i10, if_neg (by decide)]
    rfl
  · rw [if_neg (by decide), if_neg (by decide), if_neg (by decide), m_in_y (by decide) (by decide), Option.bind_some]
    dsimp only
    rw [if_neg i10, if_pos (by decide)]
    rfl
theorem set_rng {j : Nat} (hj : j < 4) {x : Int32} (h1 : ¬ x < aSt 0 j) (h2 : ¬ aSt 1 j < x) : ∃ n, x = nI n ∧ setLo j ≤ n ∧ n ≤ setHi j := by
  rw [Int32.lt_iff_toInt_lt] at h1 h2
  have e0 : (aSt 0 j).toInt = (setLo j : Int) ∧ (aSt 1 j).toInt = (setHi j : Int) ∧ setHi j < 200 := by
    rcases (show j = 0 ∨ j = 1 ∨ j = 2 ∨ j = 3 by omega) with rfl | rfl | rfl | rfl <;> decide
  rw [e0.1] at h1
  rw [e0.2.1] at h2
  obtain ⟨n, hn, rfl⟩ := nI_of (x := x) (by rw [Int32.lt_iff_toInt_lt]; show ¬ x.toInt < 0; omega)
  rw [nI_toInt hn] at h1 h2
  exact ⟨n, rfl, by omega, by omega⟩
theorem ok_change {ι : iS} (h : Inv ι) (x y : Int32) : Ok32 (w_change x y ι) (m_X7_change x y) := by
  obtain ⟨⟨T, P, S, F, h0, hcod, hmt⟩, -⟩ := id h
  obtain ⟨⟨hT, hP, hS⟩, ⟨⟨b0, r0⟩, ⟨b1, r1⟩, ⟨b2, r2⟩⟩, hset, hval, htold, hord, hinj, hmock⟩ := id h0
  have b2 : gI ι 2 2 = nI S := b2
  by_cases hx : x < 0 ∨ 3 < x
  · refine ok_refuse h (e := 1) (c := 1) (v := 0) (by omega) i10 ?_ ?_
    · unfold w_change m_X6_change
      rw [d_nr_n hx]
      rfl
    · unfold m_X7_change
      rw [if_neg (fun q => by rw [q] at hx; revert hx; decide), if_neg (fun q => by rw [q] at hx; revert hx; decide), if_neg (fun q => by rw [q] at hx; revert hx; decide), m_in_n hx, Option.bind_some]
      dsimp only
      rw [if_pos rfl, show m_X7_bad 1 1 1 = m_X7_bad 1 1 (nI 1) from rfl, m_bad_1 (e := 1) (hc := i10) (he := by omega)]
      · rfl
      · rfl
  obtain ⟨hx1, hx2⟩ := not_or.mp hx
  obtain ⟨j, hj, rfl⟩ := nI_of2 (n := 3) (M := 3) rfl hx1 (Int32.not_lt.mp hx2)
  by_cases hy : y < aSt 0 j ∨ aSt 1 j < y
  · refine ok_refuse h (e := 1) (c := 1) (v := 0) (by omega) i10 ?_ ?_
    · unfold w_change m_X6_change
      rw [d_nr_y hx1 hx2, Option.bind_some]
      dsimp only
      rw [if_pos (aIn_nI (by omega) (by omega)), if_pos (aIn_nI (by omega) (by omega)), nI_clamp (by omega), d_nr_n hy]
      rfl
    · rw [m_change_j (by omega), m_in_n hy, Option.bind_some]
      dsimp only
      rw [if_pos rfl, show m_X7_bad 1 1 1 = m_X7_bad 1 1 (nI 1) from rfl, m_bad_1 (e := 1) (hc := i10) (he := by omega)]
      · rfl
      · rfl
  obtain ⟨hy1, hy2⟩ := not_or.mp hy
  have hs6 : gI ι 6 j = gI ι 112 (4 + j) := (hset j (by omega)).1
  refine act32 h (v := gI ι 112 (4 + j)) (BP := fun B => ∃ κ : iS, (∀ o k, 1 ≤ o → o ≤ 36 → gI κ o k = gI ι o k) ∧ B = blk (pI κ 6 j y) 2) (RP := fun r => ∃ μ : iS, (∀ k, gI μ 112 k = gI ι 112 k) ∧ r = gI (pI μ 112 (4 + j) y) 112) (fun κ k1 k2 => ?_) (fun ι0 ι1 μ hι1 r112 hz m1 m2 => ?_) (fun B r hB hr => ?_)
  · refine ⟨pI κ 6 j y, ?_, fun o k q => by rw [gI_p2 _ _ (by omega)], rfl, κ, k2, rfl⟩
    unfold w_change m_X6_change
    rw [d_nr_y hx1 hx2, Option.bind_some]
    dsimp only
    rw [if_pos (aIn_nI (by omega) (by omega)), if_pos (aIn_nI (by omega) (by omega)), nI_clamp (by omega), d_nr_y hy1 hy2, Option.bind_some]
    dsimp only
    rw [k1, Option.bind_some, if_pos (aIn_nI (by omega) (by omega)), if_pos (aIn_nI (by omega) (by omega)), Option.bind_some]
    dsimp only
    rw [k2 _ _ (by omega) (by omega), hs6]
  · refine ⟨pI μ 112 (4 + j) y, ?_, fun o k q => by rw [gI_p2 _ _ (by omega)], rfl, rfl, μ, m2, rfl⟩
    rw [m_change_j (by omega), ← hι1, m_in_y hy1 hy2, Option.bind_some]
    dsimp only
    rw [if_neg i10, m_bad_0 hz, Option.bind_some]
    unfold chT
    dsimp only
    rw [if_pos rfl, m1, Option.bind_some, show (4 : Int32) + nI j = nI (4 + j) from nI_add 4 j, if_pos (aIn_nI (by omega) (by omega)), if_pos (aIn_nI (by omega) (by omega)), nI_clamp (by omega), m2]
  · obtain ⟨κ, k2, rfl⟩ := hB
    obtain ⟨μ, m2, rfl⟩ := hr
    have hB2 : ∀ j' k, j' ≤ 8 → ¬ (j' = 4 ∧ k = j) → blk (pI κ 6 j y) 2 j' k = blk ι 2 j' k := fun j' k hj q => by
      rw [blk_at _ _ _ _ hj, blk_at _ _ _ _ hj, gI_p2 _ _ (by omega), k2 _ _ (by omega) (by omega)]
    have hr2 : ∀ k, k ≠ 4 + j → gI (pI μ 112 (4 + j) y) 112 k = gI ι 112 k := fun k q => by rw [gI_p2 _ _ (by omega), m2]
    refine LR_act (S' := S) h0 hcod hmt ⟨hB2 0 0 (by omega) (by omega), hB2 0 1 (by omega) (by omega)⟩ (fun j k hj => hB2 j k (by omega) (by omega)) (fun k hk => hr2 k (by omega)) hS ⟨(hB2 0 2 (by omega) (by omega)).trans b2, (hr2 3 (by omega)).trans r2⟩ (fun i hi => ?_) (fun k hk => ?_) (fun k l hk hl e => ?_) (fun p' hp' => ?_)
    · by_cases hij : i = j
      · subst hij
        rw [blk_at _ _ _ _ (by omega), gI_p1, gI_p1]
        exact ⟨rfl, set_rng (by omega) hy1 hy2⟩
      · rw [hB2 4 i (by omega) (by omega), hr2 _ (by omega)]; exact hset i hi
    · rw [hB2 5 k (by omega) (by omega), hr2 _ (by omega)]; exact hord k hk
    · rw [hr2 _ (by omega), hr2 _ (by omega)] at e; exact hinj k l hk hl e
    · rw [hB2 6 p' (by omega) (by omega), hr2 _ (by omega)]; exact hmock p' hp'
/-! feed -/
def sh (i : Nat) : Int32 := 24 - 8 * nI i
def byD (x : Int32) (i : Nat) : Int32 := (x >>> (sh i &&& 31)).toInt8.toInt32
def byM (x : Int32) (i : Nat) : Int32 := (x >>> (sh i &&& 31)) &&& 255
theorem i8_toInt (z : Int32) : z.toInt8.toInt32.toInt = (z.toBitVec.toNat : Int).bmod 256 := by
  rw [Int8.toInt_toInt32, Int32.toInt_toInt8, ← Int32.toInt_toBitVec, BitVec.toInt_eq_toNat_bmod]
  exact Int.bmod_bmod_of_dvd ⟨2 ^ 24, by decide⟩
theorem byR (x : Int32) (i : Nat) : byteR (byD x i) (byM x i) := by
  unfold byD byM
  generalize x >>> (sh i &&& 31) = z
  refine ⟨z.toBitVec.toNat % 256, Nat.mod_lt _ (by omega), pk_and z 8 (by decide), ?_⟩
  apply Int32.toInt_inj.mp
  rw [i8_toInt, Int.bmod_def]
  have hm : z.toBitVec.toNat % 256 < 256 := Nat.mod_lt _ (by omega)
  by_cases hb : z.toBitVec.toNat % 256 < 128
  · rw [if_pos (by omega), if_pos hb, nI_toInt (by omega)]
    omega
  · rw [if_neg (by omega), if_neg hb]
    have := pk_sub_toInt (a := z.toBitVec.toNat % 256) (b := 256) (by omega) (by omega)
    rw [show (256 : Int32) = nI 256 from rfl, this]
    omega
theorem d_put_loop (x : Int32) {n : Nat} (hn : n + 4 ≤ 500) : ∀ d i m ι, i + d = 4 → d < m → gI ι 0 1 = nI (n + i) → ∃ ι', l_X6_putBytes_3 m x (sh i) ι = some ι' ∧ gI ι' 0 1 = nI (n + 4) ∧ (∀ k, gI ι' 1 k = if n + i ≤ k ∧ k < n + 4 then byD x (k - n) else gI ι 1 k) ∧ (∀ o k, o ≠ 1 → ¬ (o = 0 ∧ k = 1) → gI ι' o k = gI ι o k) ∧ gP ι' = gP ι := by
  intro d
  induction d with
  | zero =>
    intro i m ι hi hm h1
    obtain ⟨m, rfl⟩ : ∃ q, m = q + 1 := ⟨m - 1, by omega⟩
    obtain rfl : i = 4 := by omega
    refine ⟨ι, ?_, h1, fun k => by rw [if_neg (by omega)], fun _ _ _ _ => rfl, rfl⟩
    rw [l_X6_putBytes_3, if_pos (by decide)]
  | succ d ih =>
    intro i m ι hi hm h1
    obtain ⟨m, rfl⟩ : ∃ q, m = q + 1 := ⟨m - 1, by omega⟩
    obtain ⟨ι', e1, e2, e3, e4, e5⟩ := ih (i + 1) m (pI (pI ι 1 (n + i) (byD x i)) 0 1 (nI (n + (i + 1)))) (by omega) (by omega) (gI_p1 _ _ _ _)
    have hs : ¬ sh i < 0 ∧ sh i + -8 = sh (i + 1) := by
      rcases (show i = 0 ∨ i = 1 ∨ i = 2 ∨ i = 3 by omega) with rfl | rfl | rfl | rfl <;> decide
    refine ⟨ι', ?_, e2, fun k => ?_, fun o k q1 q2 => by rw [e4 o k q1 q2, gI_p2 _ _ q2, gI_p2 _ _ (by omega)], e5⟩
    · rw [l_X6_putBytes_3, if_neg hs.1, h1, if_neg (show ¬ (500 : Int32) ≤ nI (n + i) from nI_ge (a := n + i) (b := 500) (by omega) (by omega)), if_pos (aIn_nI (by omega) (by omega)), nI_clamp (by omega), pk_vb, hs.2, gI_p2 _ _ (by omega), h1, nI_1]
      exact e1
    · rw [e3 k]
      by_cases hk : k = n + i
      · subst hk
        rw [if_neg (by omega), gI_p2 _ _ (by omega), gI_p1, if_pos (by omega), show n + i - n = i by omega]
      · by_cases hc : n + i ≤ k ∧ k < n + 4
        · rw [if_pos (by omega), if_pos hc]
        · rw [if_neg (by omega), gI_p2 _ _ (by omega), gI_p2 _ _ (by omega), if_neg hc]
theorem d_put (x : Int32) {n : Nat} (hn : n + 4 ≤ 500) {ι : iS} (h1 : gI ι 0 1 = nI n) : ∃ ι', m_X6_putBytes x ι = some ι' ∧ gI ι' 0 1 = nI (n + 4) ∧ (∀ k, gI ι' 1 k = if n ≤ k ∧ k < n + 4 then byD x (k - n) else gI ι 1 k) ∧ (∀ o k, o ≠ 1 → ¬ (o = 0 ∧ k = 1) → gI ι' o k = gI ι o k) ∧ gP ι' = gP ι := d_put_loop x hn 4 0 aF ι (by omega) (by unfold aF; omega) h1
def sel (a b c d e : Int32) (k : Nat) : Int32 := if k < 4 then a else if k < 8 then b else if k < 12 then c else if k < 16 then d else e
theorem m_feed_loop (a b c d' e : Int32) {n : Nat} (hn : n + 20 ≤ 500) : ∀ d i m ι, i + d = 20 → d < m → gI ι 109 2 = nI (n + i) → ∃ ι', l_X7_feed_23 m a b c d' e (nI i) ι = some (nI (n + 20), ι') ∧ gI ι' 109 2 = nI (n + 20) ∧ (∀ k, gI ι' 111 k = if n + i ≤ k ∧ k < n + 20 then byM (sel a b c d' e (k - n)) ((k - n) % 4) else gI ι 111 k) ∧ (∀ o k, o ≠ 111 → ¬ (o = 109 ∧ k = 2) → gI ι' o k = gI ι o k) ∧ gP ι' = gP ι := by
  intro d
  induction d with
  | zero =>
    intro i m ι hi hm h1
    obtain ⟨m, rfl⟩ : ∃ q, m = q + 1 := ⟨m - 1, by omega⟩
    obtain rfl : i = 20 := by omega
    refine ⟨ι, ?_, h1, fun k => by rw [if_neg (by omega)], fun _ _ _ _ => rfl, rfl⟩
    rw [l_X7_feed_23, if_pos (by decide), h1]
  | succ d ih =>
    intro i m ι hi hm h1
    obtain ⟨m, rfl⟩ : ∃ q, m = q + 1 := ⟨m - 1, by omega⟩
    obtain ⟨ι', e1, e2, e3, e4, e5⟩ := ih (i + 1) m (pI (pI ι 111 (n + i) (byM (sel a b c d' e i) (i % 4))) 109 2 (nI (n + (i + 1)))) (by omega) (by omega) (gI_p1 _ _ _ _)
    have hr : nI i - nI i / 4 * 4 = nI (i % 4) := pk_rem (a := i) (d := 4) (by omega) (by omega) (by omega)
    refine ⟨ι', ?_, e2, fun k => ?_, fun o k q1 q2 => by rw [e4 o k q1 q2, gI_p2 _ _ q2, gI_p2 _ _ (by omega)], e5⟩
    · rw [l_X7_feed_23, if_neg (show ¬ (20 : Int32) ≤ nI i from nI_ge (a := i) (b := 20) (by omega) (by omega)), hr, h1, nI_clamp (by omega), nI_1]
      simp only [if_pos (aIn_nI (show n + i < 500 by omega) (by omega)), gI_p2 _ _ (show ¬ (109 = 111 ∧ 2 = n + i) by omega), h1, nI_1]
      unfold byM sel sh at e1
      rcases (show i < 4 ∨ (4 ≤ i ∧ i < 8) ∨ (8 ≤ i ∧ i < 12) ∨ (12 ≤ i ∧ i < 16) ∨ 16 ≤ i by omega) with q | q | q | q | q
      · rw [if_neg (show ¬ (4 : Int32) ≤ nI i from nI_ge (a := i) (b := 4) (by omega) (by omega))]
        rw [if_pos (by omega)] at e1
        exact e1
      · rw [if_pos (show (4 : Int32) ≤ nI i from nI_le (a := 4) (b := i) (by omega) (by omega)), if_neg (show ¬ (8 : Int32) ≤ nI i from nI_ge (a := i) (b := 8) (by omega) (by omega))]
        rw [if_neg (by omega), if_pos (by omega)] at e1
        exact e1
      · rw [if_pos (show (4 : Int32) ≤ nI i from nI_le (a := 4) (b := i) (by omega) (by omega)), if_pos (show (8 : Int32) ≤ nI i from nI_le (a := 8) (b := i) (by omega) (by omega)), if_neg (show ¬ (12 : Int32) ≤ nI i from nI_ge (a := i) (b := 12) (by omega) (by omega))]
        rw [if_neg (by omega), if_neg (by omega), if_pos (by omega)] at e1
        exact e1
      · rw [if_pos (show (4 : Int32) ≤ nI i from nI_le (a := 4) (b := i) (by omega) (by omega)), if_pos (show (8 : Int32) ≤ nI i from nI_le (a := 8) (b := i) (by omega) (by omega)), if_pos (show (12 : Int32) ≤ nI i from nI_le (a := 12) (b := i) (by omega) (by omega)), if_neg (show ¬ (16 : Int32) ≤ nI i from nI_ge (a := i) (b := 16) (by omega) (by omega))]
        rw [if_neg (by omega), if_neg (by omega), if_neg (by omega), if_pos (by omega)] at e1
        exact e1
      · rw [if_pos (show (4 : Int32) ≤ nI i from nI_le (a := 4) (b := i) (by omega) (by omega)), if_pos (show (8 : Int32) ≤ nI i from nI_le (a := 8) (b := i) (by omega) (by omega)), if_pos (show (12 : Int32) ≤ nI i from nI_le (a := 12) (b := i) (by omega) (by omega)), if_pos (show (16 : Int32) ≤ nI i from nI_le (a := 16) (b := i) (by omega) (by omega))]
        rw [if_neg (by omega), if_neg (by omega), if_neg (by omega), if_neg (by omega)] at e1
        exact e1
    · rw [e3 k]
      by_cases hk : k = n + i
      · subst hk
        rw [if_neg (by omega), gI_p2 _ _ (by omega), gI_p1, if_pos (by omega), show n + i - n = i by omega]
      · by_cases hc : n + i ≤ k ∧ k < n + 20
        · rw [if_pos (by omega), if_pos hc]
        · rw [if_neg (by omega), gI_p2 _ _ (by omega), gI_p2 _ _ (by omega), if_neg hc]
theorem ok_feed {ι : iS} (h : Inv ι) (a b c d e : Int32) : OkP (m_X6_feed a b c d e ι) (m_X7_feed a b c d e) := by
  obtain ⟨hL, ⟨n, hn, t1, t2, t3⟩, ⟨hp, ac, ha, ac1, ac2, hk⟩, hf, hrf⟩ := id h
  have e20 : nI n + 20 = nI (n + 20) := nI_add n 20
  by_cases hn20 : n + 20 ≤ 500
  · obtain ⟨i1, p1, q1, s1, u1, v1⟩ := d_put a (n := n) (by omega) t1
    obtain ⟨i2, p2, q2, s2, u2, v2⟩ := d_put b (n := n + 4) (by omega) q1
    obtain ⟨i3, p3, q3, s3, u3, v3⟩ := d_put c (n := n + 4 + 4) (by omega) q2
    obtain ⟨i4, p4, q4, s4, u4, v4⟩ := d_put d (n := n + 4 + 4 + 4) (by omega) q3
    obtain ⟨i5, p5, q5, s5, u5, v5⟩ := d_put e (n := n + 4 + 4 + 4 + 4) (by omega) q4
    have u : ∀ o k, o ≠ 1 → ¬ (o = 0 ∧ k = 1) → gI i5 o k = gI ι o k := fun o k w1 w2 => by rw [u5 o k w1 w2, u4 o k w1 w2, u3 o k w1 w2, u2 o k w1 w2, u1 o k w1 w2]
    have hby : ∀ k, gI i5 1 k = if n ≤ k ∧ k < n + 20 then byD (sel a b c d e (k - n)) ((k - n) % 4) else gI ι 1 k := by
      intro k
      rw [s5 k, s4 k, s3 k, s2 k, s1 k]
      unfold sel
      rcases (show k < n ∨ (n ≤ k ∧ k < n + 4) ∨ (n + 4 ≤ k ∧ k < n + 8) ∨ (n + 8 ≤ k ∧ k < n + 12) ∨ (n + 12 ≤ k ∧ k < n + 16) ∨ (n + 16 ≤ k ∧ k < n + 20) ∨ n + 20 ≤ k by omega) with q | q | q | q | q | q | q
      · rw [if_neg (by omega), if_neg (by omega), if_neg (by omega), if_neg (by omega), if_neg (by omega), if_neg (by omega)]
      · rw [if_neg (by omega), if_neg (by omega), if_neg (by omega), if_neg (by omega), if_pos (by omega), if_pos (by omega), if_pos (by omega), Nat.mod_eq_of_lt (by omega)]
      · rw [if_neg (by omega), if_neg (by omega), if_neg (by omega), if_pos (by omega), if_pos (by omega), if_neg (by omega), if_pos (by omega), show (k - n) % 4 = k - (n + 4) by omega]
      · rw [if_neg (by omega), if_neg (by omega), if_pos (by omega), if_pos (by omega), if_neg (by omega), if_neg (by omega), if_pos (by omega), show (k - n) % 4 = k - (n + 4 + 4) by omega]
      · rw [if_neg (by omega), if_pos (by omega), if_pos (by omega), if_neg (by omega), if_neg (by omega), if_neg (by omega), if_pos (by omega), show (k - n) % 4 = k - (n + 4 + 4 + 4) by omega]
      · rw [if_pos (by omega), if_pos (by omega), if_neg (by omega), if_neg (by omega), if_neg (by omega), if_neg (by omega), show (k - n) % 4 = k - (n + 4 + 4 + 4 + 4) by omega]
      · rw [if_neg (by omega), if_neg (by omega), if_neg (by omega), if_neg (by omega), if_neg (by omega), if_neg (by omega)]
    have tm : gI (pI i5 109 0 0) 109 2 = nI (n + 0) := by rw [gI_p2 _ _ (by omega), u _ _ (by omega) (by omega)]; exact t2
    obtain ⟨j, w1, w2, w3, w4, w5⟩ := m_feed_loop a b c d e hn20 20 0 aF (pI i5 109 0 0) (by omega) (by unfold aF; omega) tm
    refine ⟨nI (n + 20), i5, j, ?_, ?_, ?_⟩
    · unfold m_X6_feed
      rw [t1, e20, if_pos (show nI (n + 20) ≤ 500 from nI_le (a := n + 20) (b := 500) (by omega) (by omega)), p1, Option.bind_some, p2, Option.bind_some, p3, Option.bind_some, p4, Option.bind_some, p5, Option.bind_some, q5]
    · unfold m_X7_feed
      rw [tm, show nI (n + 0) + 20 = nI (n + 20) from e20, if_pos (show nI (n + 20) ≤ 500 from nI_le (a := n + 20) (b := 500) (by omega) (by omega))]
      exact w1
    · have g : ∀ o k, o ≠ 1 → o ≠ 111 → ¬ (o = 0 ∧ k = 1) → ¬ (o = 109 ∧ k = 2) → ¬ (o = 109 ∧ k = 0) → gI j o k = gI ι o k := fun o k y1 y2 y3 y4 y5 => by rw [w4 o k y2 y4, gI_p2 _ _ y5, u o k y1 y3]
      have gP' : ∀ o k, gP j o k = gP ι o k := fun o k => by rw [w5, gP_pI, v5, v4, v3, v2, v1]
      refine ⟨?_, ⟨n + 20, hn20, ?_, w2, fun k hk => ?_⟩, ⟨pastR_sm (gP' 29) hp, ac, ha, ?_, ?_, fun k hk2 o hko => ?_⟩, ?_, fun k hk => ?_⟩
      · rw [blk_eq (ι := ι) (fun j z hj => g _ _ (by omega) (by omega) (by omega) (by omega) (by omega)), show gI j 112 = gI ι 112 from funext fun z => g _ _ (by omega) (by omega) (by omega) (by omega) (by omega)]
        exact hL
      · rw [w4 _ _ (by omega) (by omega), gI_p2 _ _ (by omega), q5]
      · rw [w4 1 k (by omega) (by omega), gI_p2 _ _ (by omega), hby k, w3 k]
        by_cases hkn : n ≤ k
        · rw [if_pos ⟨hkn, hk⟩, if_pos (by omega)]
          exact byR _ _
        · rw [if_neg (by omega), if_neg (by omega), gI_p2 _ _ (by omega), u _ _ (by omega) (by omega)]
          exact t3 k (by omega)
      · rw [g _ _ (by omega) (by omega) (by omega) (by omega) (by omega)]; exact ac1
      · rw [g _ _ (by omega) (by omega) (by omega) (by omega) (by omega)]; exact ac2
      · rw [gP'] at hko
        obtain ⟨i2, hi2, e2⟩ := pastR_le hp (by omega) hko
        rw [blk_eq (ι := ι) (fun j z hj => g _ _ (by omega) (by omega) (by omega) (by omega) (by omega)), show gI j (115 + k) = gI ι (115 + k) from funext fun z => g _ _ (by omega) (by omega) (by omega) (by omega) (by omega)]
        exact hk k hk2 o hko
      · rw [g _ _ (by omega) (by omega) (by omega) (by omega) (by omega), g _ _ (by omega) (by omega) (by omega) (by omega) (by omega)]; exact hf
      · rw [g _ _ (by omega) (by omega) (by omega) (by omega) (by omega), g _ _ (by omega) (by omega) (by omega) (by omega) (by omega)]; exact hrf k hk
  · refine ⟨-1, ι, pI ι 109 0 0, ?_, ?_, Inv_sm ((Sm.rf ι).pI scr_t) h⟩
    · unfold m_X6_feed
      rw [t1, e20, if_neg (show ¬ nI (n + 20) ≤ 500 from nI_ge (a := 500) (b := n + 20) (by omega) (by omega))]
    · unfold m_X7_feed
      rw [gI_p2 _ _ (by omega), t2, e20, if_neg (show ¬ nI (n + 20) ≤ 500 from nI_ge (a := 500) (b := n + 20) (by omega) (by omega))]
