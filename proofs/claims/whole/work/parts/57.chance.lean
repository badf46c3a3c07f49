theorem looks {ι : iS} {T P S : Nat} {F : List (Nat × Nat)} (h0 : LR0 (blk ι 2) (gI ι 112) T P S) (hcod : Coded (gI ι 112) T F) (hmt : ∀ p, p < P → blk ι 2 7 p = mt (gI ι 112) T F p 0 ∧ blk ι 2 8 p = mt (gI ι 112) T F p 1) :
    ∃ z c : Nat, z ≤ 5 ∧ c ≤ 120 ∧ gI ι 112 4 = nI z ∧ gI ι 112 5 = nI c ∧ (∀ g b k, k < S → mid (gI ι 112) T F g b k < 500) ∧
      (∀ (o : Nat) (g b : Int32) (κ : iS), 31 ≤ o → (g = 0 ∨ g = 1) → (∀ y i, y < 11 → gI κ y i = gI ι y i) → ∃ κ', m_X5_look o 2 g b κ = some κ' ∧ WR κ' o S z c (mid (gI ι 112) T F g b) ∧ (∀ y i, y ≠ o → y ≠ o + 1 → gI κ' y i = gI κ y i) ∧ gJ κ' = gJ κ ∧ gP κ' = gP κ) ∧
      (∀ (g b : Int32) (κ : iS), gI κ 112 = gI ι 112 → ∃ κ', m_X7_feels g b κ = some κ' ∧ MR κ' S z (mid (gI ι 112) T F g b) ∧ FS κ κ') := by
  obtain ⟨⟨hT, hP, hS⟩, ⟨⟨b0, r0⟩, ⟨b1, r1⟩, ⟨b2, r2⟩⟩, hset, hval, htold, hord, hinj, hmock⟩ := h0
  obtain ⟨s0, z, hz, -, hz5⟩ := hset 0 (by omega)
  obtain ⟨s1, c, hc, -, hc5⟩ := hset 1 (by omega)
  obtain ⟨s2, nd, hn, -, hn5⟩ := hset 2 (by omega)
  have hz5 : z ≤ 5 := hz5
  have hc5 : c ≤ 120 := hc5
  have hn5 : nd ≤ 20 := hn5
  refine ⟨z, c, hz5, hc5, hz, hc, fun g b k hk => ?_, fun o g b κ ho hg hκ => ?_, fun g b κ hr => ?_⟩
  · obtain ⟨p, hp, hpP⟩ := (hord k hk).2
    have := mid_le (T := T) (F := F) (g := g) (b := b) hp (by omega) hn hn5
    omega
  · refine d_look (ι := κ) (r := gI ι 112) (nd := nd) ho hS g b ((hκ 2 2 (by omega)).trans b2) (((hκ 6 0 (by omega)).trans s0).trans hz) (((hκ 6 1 (by omega)).trans s1).trans hc) (fun k hk => ⟨(hκ 7 k (by omega)).trans (hord k hk).1, ?_⟩) (((hκ 6 2 (by omega)).trans s2).trans hn) hn hn5
    obtain ⟨p, hp, hpP⟩ := (hord k hk).2
    refine ⟨p, hp, by omega, ?_⟩
    rcases hg with rfl | rfl
    · rw [if_pos rfl, hκ 9 p (by omega)]; exact (hmt p hpP).1
    · rw [if_neg i10, hκ 10 p (by omega)]; exact (hmt p hpP).2
  · obtain ⟨κ', e1, e2, e3⟩ := m_feels (ι := κ) (T := T) (S := S) (nd := nd) (F := F) hT.2 hS g b (by rw [hr]; exact r0) (by rw [hr]; exact r2) (by rw [hr]; exact hcod) (fun k hk => by
      obtain ⟨p, hp, hpP⟩ := (hord k hk).2
      exact ⟨p, by rw [hr]; exact hp, by omega⟩) (by rw [hr]; exact hn) hn5
    rw [hr] at e2
    exact ⟨κ', e1, ⟨by rw [e3.row, hr]; exact r2, by rw [e3.row, hr]; exact hz, e2⟩, e3⟩
/-- how many cases are told of: of one at his place, or of nobody -/
def tll (r : Nat → Int32) (m : Nat → Nat) (w c S : Nat) (way p : Int32) : Nat := if p = -1 then prd (bl m w c) S else sm (fun k => if r (99 + k) = p then pck m w c S way k else 0) S
theorem m_chance_loop {ι κ : iS} {S z c : Nat} {m : Nat → Nat} {y3 y4 y5 way p : Int32} (h : MR κ S z m) (hS : S ≤ 8) (hz : z ≤ 5) (hc : c ≤ 120) (hcut : gI κ 112 5 = nI c) (hm : ∀ k, k < S → m k < 500) (hrow : gI κ 112 = gI ι 112) : ∀ d k n, k + d = S → d < n → l_X7_chance_76 n way p y3 y4 y5 (lN (sm (fun k => if p = -1 ∨ gI ι 112 (99 + k) = p then pck m (2 * z + 1) (c + z) S way k else 0) k)) (nI k) κ = some (lN (fr (tll (gI ι 112) m (2 * z + 1) (c + z) S way p) ((2 * z + 1) ^ S) y5), κ) := by
  have hw : 0 < 2 * z + 1 := by omega
  have hp9 := pow_le (w := 2 * z + 1) (S := S) (by omega) hS
  have hsum := pck_sum (m := m) (w := 2 * z + 1) (c := c + z) (S := S) way hw
  intro d
  induction d with
  | zero =>
    intro k n hk hn
    obtain ⟨n, rfl⟩ : ∃ m, n = m + 1 := ⟨n - 1, by omega⟩
    obtain rfl : k = S := by omega
    rw [l_X7_chance_76, h.1, if_pos (Int32.le_refl _), m_ways h hS hz]
    simp only [Option.bind_some]
    unfold tll
    by_cases hp : p = -1
    · have e : sm (fun j => if p = -1 ∨ gI ι 112 (99 + j) = p then pck m (2 * z + 1) (c + z) k way j else 0) k = sm (fun j => pck m (2 * z + 1) (c + z) k way j) k := sm_ext k (fun j _ => if_pos (Or.inl hp))
      rw [if_pos hp, if_pos hp, m_ways h hS hz, Option.bind_some, e, lN_sub (by omega), show (2 * z + 1) ^ k - sm (fun j => pck m (2 * z + 1) (c + z) k way j) k = prd (bl m (2 * z + 1) (c + z)) k by omega, m_frac (by omega) (by omega), Option.bind_some]
    · have e : sm (fun j => if p = -1 ∨ gI ι 112 (99 + j) = p then pck m (2 * z + 1) (c + z) k way j else 0) k = sm (fun j => if gI ι 112 (99 + j) = p then pck m (2 * z + 1) (c + z) k way j else 0) k := sm_ext k (fun j _ => by
        by_cases hj : gI ι 112 (99 + j) = p
        · rw [if_pos (Or.inr hj), if_pos hj]
        · rw [if_neg (fun q => q.elim hp hj), if_neg hj])
      have hle : sm (fun j => if gI ι 112 (99 + j) = p then pck m (2 * z + 1) (c + z) k way j else 0) k ≤ sm (fun j => pck m (2 * z + 1) (c + z) k way j) k := by
        generalize hK : (fun j => pck m (2 * z + 1) (c + z) k way j) = f
        have : ∀ n, sm (fun j => if gI ι 112 (99 + j) = p then f j else 0) n ≤ sm f n := by
          intro n
          induction n with
          | zero => exact Nat.le_refl _
          | succ n ih =>
            rw [sm, sm]
            by_cases hj : gI ι 112 (99 + n) = p
            · rw [if_pos hj]; omega
            · rw [if_neg hj]; omega
        have h2 := this k
        rw [← hK] at h2 ⊢
        exact h2
      rw [if_neg hp, if_neg hp, e, m_frac (by omega) (by omega), Option.bind_some]
  | succ d ih =>
    intro k n hk hn
    obtain ⟨n, rfl⟩ : ∃ m, n = m + 1 := ⟨n - 1, by omega⟩
    have ih := ih (k + 1) n (by omega) (by omega)
    rw [sm] at ih
    rw [l_X7_chance_76, h.1, if_neg (nI_ge (by omega) (by omega)), hcut, m_pck h hS hz hc hm (by omega), show (99 : Int32) + nI k = nI (99 + k) from nI_add 99 k, nI_clamp (by omega), if_pos (aIn_nI (by omega) (by omega)), hrow]
    simp only [Option.bind_some, lN_add, nI_1]
    by_cases hp : p = -1
    · rw [if_pos (Or.inl hp)] at ih
      rw [if_pos hp]
      exact ih
    · rw [if_neg hp]
      by_cases hj : gI ι 112 (99 + k) = p
      · rw [if_pos (Or.inr hj)] at ih
        rw [if_pos hj]
        exact ih
      · rw [if_neg (fun q => q.elim hp hj), Nat.add_zero] at ih
        rw [if_neg hj]
        exact ih
theorem m_chance_ok {ι κ : iS} {x1 x2 x3 x4 x5 : Int32} (ι0 : iS) (hκ : κ = pI ι0 109 0 0) (h0 : gI κ 109 0 = 0) {P : Nat} (r1 : gI κ 112 1 = nI (P - 1)) (hP : 1 ≤ P ∧ P ≤ 16) (hp : x2 = -1 ∨ ∃ j, j < P ∧ x2 = nI j) (hw : x1 = 0 ∨ x1 = 1) (hx : x5 = 0 ∨ x5 = 1) : m_X7_chance x1 x2 x3 x4 x5 ι0 = Option.bind (m_X7_feels x3 x4 κ) fun r67 => l_X7_chance_76 aF x1 x2 x3 x4 x5 (0 : Int64) (0 : Int32) r67 := by
  unfold m_X7_chance
  rw [← hκ]
  by_cases h1 : x2 = -1
  · rw [if_pos h1, m_bad_0 h0, Option.bind_some]
    dsimp only
    rw [if_pos rfl, m_half_y hw, Option.bind_some]
    dsimp only
    rw [if_neg i10, m_half_y hx, Option.bind_some]
    dsimp only
    rw [if_neg i10, m_bad_0 h0, Option.bind_some]
    dsimp only
    rw [if_pos rfl]
  · obtain ⟨j, hj, rfl⟩ := hp.resolve_left h1
    rw [if_neg h1, m_isPerson_j r1 hj hP.2, Option.bind_some]
    dsimp only
    rw [if_neg i10, m_bad_0 h0, Option.bind_some]
    dsimp only
    rw [if_pos rfl, m_half_y hw, Option.bind_some]
    dsimp only
    rw [if_neg i10, m_half_y hx, Option.bind_some]
    dsimp only
    rw [if_neg i10, m_bad_0 h0, Option.bind_some]
    dsimp only
    rw [if_pos rfl]
theorem ok_chance {ι : iS} (h : Inv ι) (x1 x2 x3 x4 x5 : Int32) (h3 : x3 = 0 ∨ x3 = 1) : Ok64 (w_chance x1 x2 x3 x4 x5 ι) (m_X7_chance x1 x2 x3 x4 x5) := by
  obtain ⟨⟨T, P, S, F, h0, hcod, hmt⟩, -⟩ := id h
  obtain ⟨z, c, hz, hc, r4, r5, hmid, hlook, hfeel⟩ := looks h0 hcod hmt
  obtain ⟨⟨hT, hP, hS⟩, ⟨⟨b0, r0⟩, ⟨b1, r1⟩, ⟨b2, r2⟩⟩, hset, hval, htold, hord, hinj, hmock⟩ := id h0
  have b1 : gI ι 2 1 = nI P := b1
  have b2 : gI ι 2 2 = nI S := b2
  have hP1 : ¬ ∃ j, j < P ∧ (-1 : Int32) = nI j := fun ⟨j, hj, e⟩ => nI_nm1 (i := j) (by omega) e.symm
  by_cases hp : x2 = -1 ∨ ∃ j, j < P ∧ x2 = nI j
  · by_cases hw : x1 = 0 ∨ x1 = 1
    · by_cases hx : x5 = 0 ∨ x5 = 1
      · have hw' := not_or.mp (half_r.mp hw)
        have hx' := not_or.mp (half_r.mp hx)
        obtain ⟨o, ho, ho1⟩ : ∃ o, o = (if x3 = 0 then 33 else 31) ∧ 31 ≤ o ∧ o ≤ 33 := ⟨_, rfl, by by_cases q : x3 = 0 <;> simp [q], by by_cases q : x3 = 0 <;> simp [q]⟩
        obtain ⟨κ, l1, l2, l3, l4, l5⟩ := hlook o x3 x4 ι ho1.1 h3 (fun _ _ _ => rfl)
        have hp9 := pow_le (w := 2 * z + 1) (S := S) (by omega) hS
        have hsum := pck_sum (m := mid (gI ι 112) T F x3 x4) (w := 2 * z + 1) (c := c + z) (S := S) x1 (by omega)
        obtain ⟨V, hV⟩ : ∃ V, V = fr (tll (gI ι 112) (mid (gI ι 112) T F x3 x4) (2 * z + 1) (c + z) S x1 x2) ((2 * z + 1) ^ S) x5 := ⟨_, rfl⟩
        have hd : (if x2 = (-1 : Int32) then Option.bind (m_X5_casesOfNobody o κ) fun r61 => Option.bind (m_X5_allCases o r61.2) fun r66 => Option.bind (m_X6_partOfFraction r61.1 r66.1 x5 r66.2) fun r71 => some ((Sum.inr (r71.1, r71.2) : (Nat × iS) ⊕ (Int64 × iS))) else Option.bind (m_X2_placeOf 2 x2 κ) fun r83 => Option.bind (m_X5_casesOf o x1 r83.1 r83.2) fun r86 => Option.bind (m_X5_allCases o r86.2) fun r91 => Option.bind (m_X6_partOfFraction r86.1 r91.1 x5 r91.2) fun r96 => some (Sum.inr (r96.1, r96.2))) = some (Sum.inr (lN V, κ)) := by
          rw [hV]
          unfold tll
          by_cases h1 : x2 = -1
          · rw [if_pos h1, if_pos h1]
            unfold m_X5_casesOfNobody
            rw [l2.2.1, d_low l2 hS hz hc (fun k hk => by have := hmid x3 x4 k hk; omega) (Nat.le_refl S)]
            simp only [Option.bind_some, d_all l2 hS hz]
            rw [d_frac (by omega) (by omega), Option.bind_some]
          · rw [if_neg h1, if_neg h1]
            have pl := (plc_both (ι := κ) (κ := κ) (S := S) (P := P) x2 hS ((l3 2 2 (by omega) (by omega)).trans b2) ((l3 112 3 (by omega) (by omega)).trans r2) (fun _ _ => rfl) (fun k hk => by rw [l3 7 k (by omega) (by omega), l3 112 _ (by omega) (by omega)]; exact (hord k hk).1)).1
            have erow : (fun k => gI κ 112 (99 + k)) = fun k => gI ι 112 (99 + k) := funext fun k => l3 _ _ (by omega) (by omega)
            rw [pl, erow, Option.bind_some]
            dsimp only
            rcases plc_cs (f := fun k => gI ι 112 (99 + k)) (p := x2) S 0 with ⟨q1, q2⟩ | ⟨i, -, q2, q3, q4⟩
            · rw [q1, d_pck_no (S := S) (z := z) (c := c) (m := fun _ => 0) x1, Option.bind_some]
              dsimp only
              rw [d_all l2 hS hz, Option.bind_some, sm_zero S (fun k hk => if_neg (q2 k (by omega) (by omega)))]
              dsimp only
              rw [show (0 : Int64) = lN 0 from rfl, d_frac (by omega) (by omega), Option.bind_some]
            · have hi : i < S := by omega
              rw [q3, d_pck l2 hS hz hc (fun k hk => hmid x3 x4 k hk) hi x1, Option.bind_some]
              dsimp only
              rw [d_all l2 hS hz, Option.bind_some, sm_one (i := i) S hi (fun k hk hki => if_neg (fun q => hki (hinj k i hk hi (q.trans q4.symm)))), if_pos q4]
              dsimp only
              have hle := pck_le (m := mid (gI ι 112) T F x3 x4) (w := 2 * z + 1) (c := c + z) (S := S) (k := i) (way := x1) (by omega) hi
              rw [d_frac (by omega) (by omega), Option.bind_some]
        have hW : w_chance x1 x2 x3 x4 x5 ι = some (0, pJ κ 125 0 (lN V)) := by
          unfold w_chance m_X6_chance
          by_cases h1 : x2 = -1
          · rw [if_pos h1, d_nr_y hw'.1 hw'.2, Option.bind_some]
            dsimp only
            rw [d_nr_y hx'.1 hx'.2, Option.bind_some]
            dsimp only
            by_cases h30 : x3 = 0
            · rw [if_pos h30] at ho ⊢
              rw [← ho, l1, Option.bind_some, hd]
              rfl
            · rw [if_neg h30] at ho ⊢
              rw [← ho, l1, Option.bind_some, hd]
              rfl
          · obtain ⟨j, hj, e⟩ := hp.resolve_left h1
            rw [if_neg h1, e, d_np_j b1 hj hP.2, Option.bind_some, ← e]
            dsimp only
            rw [d_nr_y hw'.1 hw'.2, Option.bind_some]
            dsimp only
            rw [d_nr_y hx'.1 hx'.2, Option.bind_some]
            dsimp only
            by_cases h30 : x3 = 0
            · rw [if_pos h30] at ho ⊢
              rw [← ho, l1, Option.bind_some, hd]
              rfl
            · rw [if_neg h30] at ho ⊢
              rw [← ho, l1, Option.bind_some, hd]
              rfl
        obtain ⟨κ1, hκ1⟩ : ∃ κ1, κ1 = pI (pJ κ 125 0 (lN V)) 109 0 0 := ⟨_, rfl⟩
        have krow : gI κ1 112 = gI ι 112 := by
          funext k
          rw [hκ1, gI_p2 _ _ (by omega), gI_pJ, l3 _ _ (by omega) (by omega)]
        have sm1 : Sm ι κ1 := by
          rw [hκ1]
          refine Sm.pI (Sm.pJ ⟨fun y i q => l3 y i (fun e => ?_) (fun e => ?_), fun k => by rw [l5]⟩) scr_t
          · rw [e] at q
            revert q
            unfold scr
            simp
            omega
          · rw [e] at q
            revert q
            unfold scr
            simp
            omega
        obtain ⟨κ2, f1, f2, f3⟩ := hfeel x3 x4 κ1 krow
        refine ok_ask64 h (ι1 := κ) (ι2 := κ2) (v := lN V) hW ?_ ?_ ?_ (Sm.tr sm1 f3.sm)
        · rw [m_chance_ok (ι := ι) (κ := κ1) (P := P) (pJ κ 125 0 (lN V)) hκ1 (by rw [hκ1, gI_p1]) (by rw [krow]; exact r1) hP hp hw hx, f1, Option.bind_some]
          have e := m_chance_loop (ι := ι) (κ := κ2) (S := S) (z := z) (c := c) (m := mid (gI ι 112) T F x3 x4) (y3 := x3) (y4 := x4) (y5 := x5) (way := x1) (p := x2) f2 hS hz hc (by rw [f3.row, krow]; exact r5) (fun k hk => hmid x3 x4 k hk) (by rw [f3.row, krow]) S 0 aF (by omega) (by unfold aF; omega)
          rw [← hV] at e
          exact e
        · rw [f3.1 _ _ (by omega), hκ1, gI_p1]
        · rw [f3.2.2 _ _ (by omega), hκ1]
          rfl
      · refine ok_refuse64 h (e := 1) (c := 2) (v := 0) (by omega) (by decide) ?_ ?_
        · have hw' := not_or.mp (half_r.mp hw)
          have hx' : x5 < 0 ∨ 1 < x5 := Classical.byContradiction fun q => hx (half_r.mpr q)
          unfold w_chance m_X6_chance
          by_cases h1 : x2 = -1
          · rw [if_pos h1, d_nr_y hw'.1 hw'.2, Option.bind_some]
            dsimp only
            rw [d_nr_n hx']
            rfl
          · obtain ⟨j, hj, rfl⟩ := hp.resolve_left h1
            rw [if_neg h1, d_np_j b1 hj hP.2, Option.bind_some]
            dsimp only
            rw [d_nr_y hw'.1 hw'.2, Option.bind_some]
            dsimp only
            rw [d_nr_n hx']
            rfl
        · unfold m_X7_chance
          by_cases h1 : x2 = -1
          · rw [if_pos h1, m_bad_0, Option.bind_some]
            · dsimp only
              rw [if_pos rfl, m_half_y hw, Option.bind_some]
              dsimp only
              rw [if_neg i10, m_half_n hx, Option.bind_some]
              dsimp only
              rw [if_pos rfl, show m_X7_bad 1 2 1 = m_X7_bad 1 2 (nI 1) from rfl, m_bad_1 (e := 1) (hc := by decide) (he := by omega)]
              · rfl
              · rfl
            · rfl
          · obtain ⟨j, hj, rfl⟩ := hp.resolve_left h1
            rw [if_neg h1, m_isPerson_j (P := P) (h := hj) (hP := hP.2), Option.bind_some]
            · dsimp only
              rw [if_neg i10, m_bad_0, Option.bind_some]
              · dsimp only
                rw [if_pos rfl, m_half_y hw, Option.bind_some]
                dsimp only
                rw [if_neg i10, m_half_n hx, Option.bind_some]
                dsimp only
                rw [if_pos rfl, show m_X7_bad 1 2 1 = m_X7_bad 1 2 (nI 1) from rfl, m_bad_1 (e := 1) (hc := by decide) (he := by omega)]
                · rfl
                · rfl
              · rfl
            · exact r1
    · refine ok_refuse64 h (e := 1) (c := 2) (v := 0) (by omega) (by decide) ?_ ?_
      · have hw' : x1 < 0 ∨ 1 < x1 := Classical.byContradiction fun q => hw (half_r.mpr q)
        unfold w_chance m_X6_chance
        by_cases h1 : x2 = -1
        · rw [if_pos h1, d_nr_n hw']
          rfl
        · obtain ⟨j, hj, rfl⟩ := hp.resolve_left h1
          rw [if_neg h1, d_np_j b1 hj hP.2, Option.bind_some]
          dsimp only
          rw [d_nr_n hw']
          rfl
      · unfold m_X7_chance
        by_cases h1 : x2 = -1
        · rw [if_pos h1, m_bad_0, Option.bind_some]
          · dsimp only
            rw [if_pos rfl, m_half_n hw, Option.bind_some]
            dsimp only
            rw [if_pos rfl, show m_X7_bad 1 2 1 = m_X7_bad 1 2 (nI 1) from rfl, m_bad_1 (e := 1) (hc := by decide) (he := by omega)]
            · rfl
            · rfl
          · rfl
        · obtain ⟨j, hj, rfl⟩ := hp.resolve_left h1
          rw [if_neg h1, m_isPerson_j (P := P) (h := hj) (hP := hP.2), Option.bind_some]
          · dsimp only
            rw [if_neg i10, m_bad_0, Option.bind_some]
            · dsimp only
              rw [if_pos rfl, m_half_n hw, Option.bind_some]
              dsimp only
              rw [if_pos rfl, show m_X7_bad 1 2 1 = m_X7_bad 1 2 (nI 1) from rfl, m_bad_1 (e := 1) (hc := by decide) (he := by omega)]
              · rfl
              · rfl
            · rfl
          · exact r1
  · have h1 : ¬ x2 = -1 := fun q => hp (Or.inl q)
    have hx : x2 < 0 ∨ nI P ≤ x2 := by
      rcases pk_ix x2 (n := P) (by omega) with q | q | q
      · exact Or.inl q
      · exact Or.inr q
      · exact absurd (Or.inr q) hp
    refine ok_refuse64 h (e := 0) (c := 1) (v := 0) (by omega) i10 ?_ ?_
    · unfold w_chance m_X6_chance
      rw [if_neg h1, d_np_x b1 hx]
      rfl
    · unfold m_X7_chance
      rw [if_neg h1, m_isPerson_x (P := P) (h := hx) (hP := hP), Option.bind_some]
      · dsimp only
        rw [if_pos rfl, show m_X7_bad 1 1 0 = m_X7_bad 1 1 (nI 0) from rfl, m_bad_1 (e := 0) (hc := i10) (he := by omega)]
        · rfl
        · rfl
      · exact r1
