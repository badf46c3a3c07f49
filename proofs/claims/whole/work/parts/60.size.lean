def JT (ι ι' : iS) : Prop := gI ι' = gI ι ∧ gP ι' = gP ι ∧ ∀ o k, o ≠ 123 → o ≠ 109 → gJ ι' o k = gJ ι o k
theorem JT.rf (ι : iS) : JT ι ι := ⟨rfl, rfl, fun _ _ _ _ => rfl⟩
theorem JT.tr {a b c : iS} (h1 : JT a b) (h2 : JT b c) : JT a c := ⟨h2.1.trans h1.1, h2.2.1.trans h1.2.1, fun o k q1 q2 => (h2.2.2 o k q1 q2).trans (h1.2.2 o k q1 q2)⟩
theorem JT.sm {a b : iS} (h : JT a b) : Sm a b := ⟨fun o k _ => by rw [h.1], fun k => by rw [h.2.1]⟩
theorem JS.jt {a b : iS} (h : JS a b) : JT a b := ⟨h.1, h.2.1, fun o k q _ => h.2.2 o k q⟩
theorem m_adds {κ : iS} {a s q : Nat} (ha : a < 2 ^ 31) (h1 : gJ κ 109 18 = lN s) (h2 : gJ κ 109 19 = lN q) : ∃ κ', m_X7_adds (nI a) κ = some κ' ∧ gJ κ' 109 18 = lN (s + a) ∧ gJ κ' 109 19 = lN (q + a * a) ∧ JT κ κ' ∧ gI κ' = gI κ := by
  refine ⟨pJ (pJ κ 109 18 (lN (s + a))) 109 19 (lN (q + a * a)), ?_, ?_, ?_, ⟨rfl, rfl, fun o k q1 q2 => ?_⟩, rfl⟩
  · unfold m_X7_adds
    rw [nI_l ha, h1, lN_add, gJ_pJ, if_neg (by omega), h2, lN_mul, lN_add]
  · rw [gJ_pJ, if_neg (by omega), gJ_pJ, if_pos ⟨rfl, rfl⟩]
  · rw [gJ_pJ, if_pos ⟨rfl, rfl⟩]
  · rw [gJ_pJ, if_neg (by omega), gJ_pJ, if_neg (by omega)]
theorem sm_bd {f : Nat → Nat} {B : Nat} : ∀ n, (∀ k, k < n → f k ≤ B) → sm f n ≤ n * B := by
  intro n
  induction n with
  | zero => intro _; rw [sm]; omega
  | succ n ih =>
    intro h
    rw [sm, Nat.succ_mul]
    have := ih (fun k hk => h k (by omega))
    have := h n (by omega)
    omega
theorem d_size_loop {ι : iS} {S o : Nat} {x : Int32} {v : Nat → Nat} (hS : S ≤ 8) (b2 : gI ι 2 2 = nI S) (hv : ∀ k, k < S → ∃ p, gI ι 7 k = nI p ∧ p < 16 ∧ gI ι o p = nI (v k) ∧ v k ≤ 999) (hb1 : sm v S * sm v S < 2 ^ 63) (hb2 : sm (fun k => v k * v k) S < 2 ^ 63) : ∀ d k n, k + d = S → d < n → l_X6_size_38 n x o (lN (sm v k)) (lN (sm (fun k => v k * v k) k)) (nI k) ι = some (.inr (lN (fr (sm v S * sm v S) (sm (fun k => v k * v k) S) (x &&& 1)), ι)) := by
  intro d
  induction d with
  | zero =>
    intro k n hk hn
    obtain ⟨n, rfl⟩ : ∃ m, n = m + 1 := ⟨n - 1, by omega⟩
    obtain rfl : k = S := by omega
    rw [l_X6_size_38, b2, if_pos (Int32.le_refl _), lN_mul, d_frac hb1 hb2]
    rfl
  | succ d ih =>
    intro k n hk hn
    obtain ⟨n, rfl⟩ : ∃ m, n = m + 1 := ⟨n - 1, by omega⟩
    obtain ⟨p, hp, hp16, hvp, hv9⟩ := hv k (by omega)
    rw [l_X6_size_38, b2, if_neg (nI_ge (by omega) (by omega)), if_pos (aIn_nI (by omega) (by omega)), nI_clamp (by omega), hp, if_pos (aIn_nI (by omega) (by omega)), nI_clamp (by omega), hvp, nI_l (by omega), lN_mul, lN_add, lN_add, nI_1]
    exact ih (k + 1) n (by omega) (by omega)
theorem m_size_loop {r : Nat → Int32} {T S : Nat} {F : List (Nat × Nat)} {x : Int32} {v : Nat → Nat} (hT : T ≤ 5) (hS : S ≤ 8) (r0 : r 0 = nI T) (r2 : r 3 = nI S) (hc : Coded r T F) (hv : ∀ k, k < S → ∃ p, r (99 + k) = nI p ∧ p < 16 ∧ (if (2 : Int32) ≤ x then r (107 + p) else mt r T F p 0) = nI (v k) ∧ v k ≤ 999) (hb1 : sm v S * sm v S < 2 ^ 63) (hb2 : sm (fun k => v k * v k) S < 2 ^ 63) : ∀ d k n κ, k + d = S → d < n → gI κ 112 = r → gJ κ 109 18 = lN (sm v k) → gJ κ 109 19 = lN (sm (fun k => v k * v k) k) → ∃ κ', l_X7_size_36 n x (nI k) κ = some (lN (fr (sm v S * sm v S) (sm (fun k => v k * v k) S) (x - x / 2 * 2)), κ') ∧ JT κ κ' := by
  intro d
  induction d with
  | zero =>
    intro k n κ hk hn hr j1 j2
    obtain ⟨n, rfl⟩ : ∃ m, n = m + 1 := ⟨n - 1, by omega⟩
    obtain rfl : k = S := by omega
    refine ⟨κ, ?_, JT.rf κ⟩
    rw [l_X7_size_36, hr, r2, if_pos (Int32.le_refl _), j1, j2, lN_mul, m_frac hb1 hb2]
    rfl
  | succ d ih =>
    intro k n κ hk hn hr j1 j2
    obtain ⟨n, rfl⟩ : ∃ m, n = m + 1 := ⟨n - 1, by omega⟩
    obtain ⟨p, hp, hp16, hvp, hv9⟩ := hv k (by omega)
    rw [l_X7_size_36, hr, r2, if_neg (nI_ge (by omega) (by omega)), show (99 : Int32) + nI k = nI (99 + k) from nI_add 99 k, if_pos (aIn_nI (by omega) (by omega)), if_pos (aIn_nI (by omega) (by omega)), nI_clamp (by omega), hp, show (107 : Int32) + nI p = nI (107 + p) from nI_add 107 p, if_pos (aIn_nI (by omega) (by omega)), nI_clamp (by omega), nI_1]
    by_cases hx : (2 : Int32) ≤ x
    · rw [if_pos hx] at hvp ⊢
      obtain ⟨κ1, a1, a2, a3, a4, a5⟩ := m_adds (κ := κ) (a := v k) (by omega) j1 j2
      obtain ⟨κ', e1, e2⟩ := ih (k + 1) n κ1 (by omega) (by omega) (by rw [a5]; exact hr) a2 a3
      refine ⟨κ', ?_, a4.tr e2⟩
      rw [hvp, a1, Option.bind_some]
      exact e1
    · rw [if_neg hx] at hvp ⊢
      obtain ⟨κ0, f1, f2⟩ := m_match (ι := κ) (p := p) (T := T) (F := F) hp16 hT (by rw [hr]; exact r0) (by rw [hr]; exact hc) 0
      rw [hr, hvp] at f1
      obtain ⟨κ1, a1, a2, a3, a4, a5⟩ := m_adds (κ := κ0) (a := v k) (by omega) ((f2.2.2 _ _ (by omega)).trans j1) ((f2.2.2 _ _ (by omega)).trans j2)
      obtain ⟨κ', e1, e2⟩ := ih (k + 1) n κ1 (by omega) (by omega) (by rw [a5, f2.1]; exact hr) a2 a3
      refine ⟨κ', ?_, (f2.jt.tr a4).tr e2⟩
      rw [f1, Option.bind_some]
      dsimp only
      rw [a1, Option.bind_some]
      exact e1
theorem ok_size {ι : iS} (h : Inv ι) (x : Int32) : Ok64 (w_size x ι) (m_X7_size x) := by
  obtain ⟨⟨T, P, S, F, h0, hcod, hmt⟩, -⟩ := id h
  obtain ⟨⟨hT, hP, hS⟩, ⟨⟨b0, r0⟩, ⟨b1, r1⟩, ⟨b2, r2⟩⟩, hset, hval, htold, hord, hinj, hmock⟩ := id h0
  have b2 : gI ι 2 2 = nI S := b2
  by_cases hx : x < 0 ∨ 3 < x
  · refine ok_refuse64 h (e := 1) (c := 1) (v := 0) (by omega) i10 ?_ ?_
    · unfold w_size m_X6_size
      rw [d_nr_n hx]
      rfl
    · unfold m_X7_size
      rw [m_in_n hx, Option.bind_some]
      dsimp only
      rw [if_pos rfl, show m_X7_bad 1 1 1 = m_X7_bad 1 1 (nI 1) from rfl, m_bad_1 (e := 1) (hc := i10) (he := by omega)]
      · rfl
      · rfl
  · obtain ⟨hx1, hx2⟩ := not_or.mp hx
    have hpar : x &&& 1 = x - x / 2 * 2 := by
      obtain ⟨j, hj, rfl⟩ := nI_of2 (n := 3) (M := 3) rfl hx1 (Int32.not_lt.mp hx2)
      rcases (show j = 0 ∨ j = 1 ∨ j = 2 ∨ j = 3 by omega) with rfl | rfl | rfl | rfl <;> decide
    obtain ⟨v, hv⟩ : ∃ v : Nat → Nat, ∀ k, k < S → ∃ p, gI ι 112 (99 + k) = nI p ∧ p < P ∧ (if (2 : Int32) ≤ x then gI ι 112 (107 + p) else mt (gI ι 112) T F p 0) = nI (v k) ∧ v k ≤ 999 := by
      refine ⟨fun k => (if (2 : Int32) ≤ x then gI ι 112 (107 + (gI ι 112 (99 + k)).toNatClampNeg) else mt (gI ι 112) T F (gI ι 112 (99 + k)).toNatClampNeg 0).toNatClampNeg, fun k hk => ?_⟩
      obtain ⟨p, hp, hpP⟩ := (hord k hk).2
      refine ⟨p, hp, hpP, ?_⟩
      dsimp only
      rw [hp, nI_clamp (by omega)]
      by_cases q : (2 : Int32) ≤ x
      · rw [if_pos q]
        obtain ⟨c, hc, hc9, -⟩ := (hmock p (by omega)).2
        rw [hc, nI_clamp (by omega)]
        exact ⟨rfl, hc9⟩
      · rw [if_neg q]
        obtain ⟨a, ha, ha9⟩ := mt_rng (gI ι 112) T F p 0
        rw [ha, nI_clamp (by omega)]
        exact ⟨rfl, by omega⟩
    have hs1 : sm v S ≤ S * 999 := sm_bd S (fun k hk => by obtain ⟨p, -, -, -, q⟩ := hv k hk; exact q)
    have hs2 : sm (fun k => v k * v k) S ≤ S * (999 * 999) := sm_bd S (fun k hk => by obtain ⟨p, -, -, -, q⟩ := hv k hk; exact Nat.mul_le_mul q q)
    have hs3 : sm v S * sm v S ≤ (S * 999) * (S * 999) := Nat.mul_le_mul hs1 hs1
    have hs4 : (S * 999) * (S * 999) ≤ (8 * 999) * (8 * 999) := Nat.mul_le_mul (Nat.mul_le_mul_right _ hS) (Nat.mul_le_mul_right _ hS)
    have hs5 : S * (999 * 999) ≤ 8 * (999 * 999) := Nat.mul_le_mul_right _ hS
    obtain ⟨V, hV⟩ : ∃ V, V = fr (sm v S * sm v S) (sm (fun k => v k * v k) S) (x &&& 1) := ⟨_, rfl⟩
    have hW : w_size x ι = some (0, pJ ι 125 0 (lN V)) := by
      unfold w_size m_X6_size
      rw [d_nr_y hx1 hx2, Option.bind_some]
      dsimp only
      by_cases q : (2 : Int32) ≤ x
      · have e := d_size_loop (ι := ι) (o := 8) (x := x) (v := v) hS b2 (fun k hk => by
          obtain ⟨p, hp, hpP, hvk, hv9⟩ := hv k hk
          rw [if_pos q] at hvk
          exact ⟨p, ((hord k hk).1 : gI ι 7 k = gI ι 112 (99 + k)).trans hp, by omega, ((hmock p (by omega)).1 : gI ι 8 p = _).trans hvk, hv9⟩) (by omega) (by omega) S 0 aF (by omega) (by unfold aF; omega)
        rw [if_pos q, show l_X6_size_38 aF x 8 0 0 0 ι = some (.inr (lN V, ι)) by rw [hV]; exact e]
        rfl
      · have e := d_size_loop (ι := ι) (o := 9) (x := x) (v := v) hS b2 (fun k hk => by
          obtain ⟨p, hp, hpP, hvk, hv9⟩ := hv k hk
          rw [if_neg q] at hvk
          exact ⟨p, ((hord k hk).1 : gI ι 7 k = gI ι 112 (99 + k)).trans hp, by omega, ((hmt p hpP).1 : gI ι 9 p = _).trans hvk, hv9⟩) (by omega) (by omega) S 0 aF (by omega) (by unfold aF; omega)
        rw [if_neg q, show l_X6_size_38 aF x 9 0 0 0 ι = some (.inr (lN V, ι)) by rw [hV]; exact e]
        rfl
    obtain ⟨μ, hμ⟩ : ∃ μ, μ = pI (pJ ι 125 0 (lN V)) 109 0 0 := ⟨_, rfl⟩
    have krow : gI μ 112 = gI ι 112 := by
      funext k
      rw [hμ, gI_p2 _ _ (by omega), gI_pJ]
    obtain ⟨μ1, e1, e2⟩ := m_size_loop (r := gI ι 112) (x := x) (v := v) hT.2 hS r0 r2 hcod (fun k hk => by
      obtain ⟨p, hp, hpP, q⟩ := hv k hk
      exact ⟨p, hp, by omega, q⟩) (by omega) (by omega) S 0 aF (pJ (pJ μ 109 18 0) 109 19 0) (by omega) (by unfold aF; omega) krow rfl rfl
    rw [← hpar, ← hV] at e1
    have hz0 : gI μ 109 0 = 0 := by rw [hμ, gI_p1]
    refine ok_ask64 h (ι1 := ι) (ι2 := μ1) (v := lN V) hW ?_ ?_ ?_ (Sm.tr (by rw [hμ]; exact ((Sm.rf ι).pJ.pI scr_t).pJ.pJ) e2.sm)
    · unfold m_X7_size
      rw [← hμ, m_in_y hx1 hx2, Option.bind_some]
      dsimp only
      rw [if_neg i10, m_bad_0 hz0, Option.bind_some]
      dsimp only
      rw [if_pos rfl]
      unfold m_X7_clears
      rw [Option.bind_some]
      exact e1
    · rw [e2.1]
      exact hz0
    · rw [e2.2.2 _ _ (by omega) (by omega), hμ]
      rfl
