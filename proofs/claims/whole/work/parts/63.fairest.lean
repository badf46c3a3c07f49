/-! the reference looks for the fairest set -/
theorem sh_32 : ∀ k, k < 17 → ((nI k &&& 31).toBitVec.smod 32).toNat = k := by decide
theorem m_pc_loop {t : Nat} {y1 y2 y3 : Int32} {y4 y6 : Int64} {ι : iS} {kk : Int32 → Int32 → Int32 → Int64 → Int64 → Int32 → Int32 → Int32 → iS → Option (Int64 × iS)} (ht : t < 2 ^ 31) : ∀ d p n, p + d = 16 → 1 ≤ p → d < n → l_X7_fairest_68 n y1 y2 y3 y4 y6 (nI t) (nI (sm (fun i => bit (1 + i) t) (p - 1))) (nI p) ι kk = kk y1 y2 y3 y4 y6 (nI t) (nI (sm (fun i => bit (1 + i) t) 15)) (nI 16) ι := by
  intro d
  induction d with
  | zero =>
    intro p n hp h1 hn
    obtain ⟨n, rfl⟩ : ∃ m, n = m + 1 := ⟨n - 1, by omega⟩
    obtain rfl : p = 16 := by omega
    rw [l_X7_fairest_68, if_pos (by decide)]
  | succ d ih =>
    intro p n hp h1 hn
    obtain ⟨n, rfl⟩ : ∃ m, n = m + 1 := ⟨n - 1, by omega⟩
    have ih := ih (p + 1) n (by omega) (by omega) (by omega)
    rw [l_X7_fairest_68, if_neg (show ¬ (16 : Int32) ≤ nI p from nI_ge (a := p) (b := 16) (by omega) (by omega)), bit_nI ht (by omega), nI_add, nI_1]
    rw [show p + 1 - 1 = p - 1 + 1 by omega, sm, show 1 + (p - 1) = p by omega] at ih
    exact ih
def psum (f : Nat → Nat) (t : Nat) : Nat → Nat
  | 0 => 0
  | p + 1 => f 0 + sm (fun i => bit (i + 1) t * f (i + 1)) p
theorem psum_s {f : Nat → Nat} {t p : Nat} (hp : 1 ≤ p) : psum f t (p + 1) = psum f t p + bit p t * f p := by
  obtain ⟨q, rfl⟩ : ∃ q, p = q + 1 := ⟨p - 1, by omega⟩
  rw [psum, psum, sm]
  omega
theorem m_sum_loop {r : Nat → Int32} {T P t : Nat} {F : List (Nat × Nat)} {m : Nat → Nat} {y1 y2 y3 y9 : Int32} {y4 y6 : Int64} {kk : Int32 → Int32 → Int32 → Int64 → Int64 → Int32 → Int32 → Int32 → iS → Option (Int64 × iS)} (hT : T ≤ 5) (hP : 1 ≤ P ∧ P ≤ 16) (r0 : r 0 = nI T) (r1 : r 1 = nI (P - 1)) (hc : Coded r T F) (hm : ∀ k, k < P → mt r T F k 0 = nI (m k) ∧ m k ≤ 99) (ht : t < 2 ^ 31) : ∀ d p n κ, p + d = P → d < n → gI κ 112 = r → gJ κ 109 18 = lN (psum m t p) → gJ κ 109 19 = lN (psum (sqf m) t p) → ∃ κ', l_X7_fairest_111 n y1 y2 y3 y4 y6 (nI t) y9 (nI p) κ kk = kk y1 y2 y3 y4 y6 (nI t) y9 (nI P) κ' ∧ JT κ κ' ∧ gJ κ' 109 18 = lN (psum m t P) ∧ gJ κ' 109 19 = lN (psum (sqf m) t P) := by
  intro d
  induction d with
  | zero =>
    intro p n κ hp hn hr j1 j2
    obtain ⟨n, rfl⟩ : ∃ m, n = m + 1 := ⟨n - 1, by omega⟩
    obtain rfl : p = P := by omega
    refine ⟨κ, ?_, JT.rf κ, j1, j2⟩
    rw [l_X7_fairest_111]
    unfold m_X7_persons
    rw [hr, r1, show (1 : Int32) + nI (p - 1) = nI (1 + (p - 1)) from nI_add 1 _, show 1 + (p - 1) = p by omega, Option.bind_some]
    dsimp only
    rw [if_pos (Int32.le_refl _)]
  | succ d ih =>
    intro p n κ hp hn hr j1 j2
    obtain ⟨n, rfl⟩ : ∃ m, n = m + 1 := ⟨n - 1, by omega⟩
    obtain ⟨κ0, f1, f2⟩ := m_match (ι := κ) (p := p) (T := T) (F := F) (by omega) hT (by rw [hr]; exact r0) (by rw [hr]; exact hc) 0
    obtain ⟨hmp, hm9⟩ := hm p (by omega)
    rw [hr, hmp] at f1
    obtain ⟨κ1, a1, a2, a3, a4, a5⟩ := m_adds (κ := κ0) (a := m p) (by omega) ((f2.2.2 _ _ (by omega)).trans j1) ((f2.2.2 _ _ (by omega)).trans j2)
    rw [l_X7_fairest_111]
    unfold m_X7_persons
    rw [hr, r1, show (1 : Int32) + nI (P - 1) = nI (1 + (P - 1)) from nI_add 1 _, show 1 + (P - 1) = P by omega, Option.bind_some]
    dsimp only
    rw [if_neg (nI_ge (by omega) (by omega)), bit_nI ht (by omega), nI_1, f1, Option.bind_some]
    dsimp only
    rw [a1, Option.bind_some]
    by_cases hp0 : p = 0
    · subst hp0
      obtain ⟨κ', e1, e2, e3, e4⟩ := ih 1 n κ1 (by omega) (by omega) (by rw [a5, f2.1]; exact hr) (by rw [a2]; rw [psum, psum, sm, Nat.zero_add, Nat.add_zero]) (by rw [a3]; rw [psum, psum, sm, Nat.zero_add, Nat.add_zero]; rfl)
      exact ⟨κ', by rw [if_pos (show nI 0 = 0 from rfl)]; exact e1, (f2.jt.tr a4).tr e2, e3, e4⟩
    · rw [if_neg (nI_ne0 (by omega) (by omega))]
      have hb := bit_lt p t
      rcases (show bit p t = 0 ∨ bit p t = 1 by omega) with q | q
      · obtain ⟨κ', e1, e2, e3, e4⟩ := ih (p + 1) n κ (by omega) (by omega) hr (by rw [j1, psum_s (by omega), q, Nat.zero_mul, Nat.add_zero]) (by rw [j2, psum_s (by omega), q, Nat.zero_mul, Nat.add_zero])
        exact ⟨κ', by rw [q, if_neg (by decide)]; exact e1, e2, e3, e4⟩
      · obtain ⟨κ', e1, e2, e3, e4⟩ := ih (p + 1) n κ1 (by omega) (by omega) (by rw [a5, f2.1]; exact hr) (by rw [a2, psum_s (by omega), q, Nat.one_mul]) (by rw [a3, psum_s (by omega), q, Nat.one_mul]; rfl)
        exact ⟨κ', by rw [q, if_pos (show nI 1 = 1 from rfl)]; exact e1, (f2.jt.tr a4).tr e2, e3, e4⟩
theorem psum_tot {f : Nat → Nat} {P t : Nat} (hP : 1 ≤ P) : psum f t P = tot f P t := by
  obtain ⟨q, rfl⟩ : ∃ q, P = q + 1 := ⟨P - 1, by omega⟩
  rfl
theorem pc_15 {P t : Nat} (hP : 1 ≤ P ∧ P ≤ 16) (ht : t < 2 ^ P) : sm (fun i => bit (1 + i) t) 15 = sm (fun i => bit (1 + i) t) (P - 1) := by
  have : ∀ d, P - 1 + d ≤ 15 → sm (fun i => bit (1 + i) t) (P - 1 + d) = sm (fun i => bit (1 + i) t) (P - 1) := by
    intro d
    induction d with
    | zero => intro _; rfl
    | succ d ih =>
      intro h
      rw [show P - 1 + (d + 1) = P - 1 + d + 1 by omega, sm, ih (by omega), bit_0 (Nat.lt_of_lt_of_le ht (Nat.pow_le_pow_right (by omega) (by omega))), Nat.add_zero]
  have := this (15 - (P - 1)) (by omega)
  rw [show P - 1 + (15 - (P - 1)) = 15 by omega] at this
  exact this
def Bm (m : Nat → Nat) (P : Nat) (X : Nat → Prop) (y3 : Int32) (y4 y6 : Int64) : Prop := (y3 = -1 ∧ ∀ t, ¬ X t) ∨ ∃ s, fst' (fA m P) (fB m P) X s ∧ s < 65536 ∧ y3 = nI s ∧ y4 = lN (fA m P s) ∧ y6 = lN (fB m P s)
theorem Bm_iff {m : Nat → Nat} {P : Nat} {X Y : Nat → Prop} {y3 : Int32} {y4 y6 : Int64} (h : ∀ t, Y t ↔ X t) (hB : Bm m P X y3 y4 y6) : Bm m P Y y3 y4 y6 := by
  rcases hB with ⟨h1, h2⟩ | ⟨s, h2, h3⟩
  · exact Or.inl ⟨h1, fun t ht => h2 t ((h t).mp ht)⟩
  · exact Or.inr ⟨s, fst_iff h h2, h3⟩
def kS (g : Int32 → Int32 → Int32 → Int64 → Int64 → Int32 → iS → Option (Int64 × iS)) (y1 y2 y3 : Int32) (y4 y6 : Int64) (y8 : Int32) (κ : iS) : Option (Int64 × iS) := if y3 = (-1 : Int32) then g y1 y2 y8 ((gJ κ 109 18) * (gJ κ 109 18)) (gJ κ 109 19) (y8 + 2) κ else if 0 < (lg_cmp (((gJ κ 109 18) * (gJ κ 109 18)) * y6) (y4 * (gJ κ 109 19))) then g y1 y2 y8 ((gJ κ 109 18) * (gJ κ 109 18)) (gJ κ 109 19) (y8 + 2) κ else g y1 y2 y3 y4 y6 (y8 + 2) κ
def kF (g : Int32 → Int32 → Int32 → Int64 → Int64 → Int32 → iS → Option (Int64 × iS)) (y1 y2 y3 : Int32) (y4 y6 : Int64) (y8 y9 y10 : Int32) (κ : iS) : Option (Int64 × iS) := if (lg_cmp (gJ κ 109 19) (0 : Int64)) = 0 then kS g y1 y2 y3 y4 y6 y8 (pJ κ 109 19 (1 : Int64)) else kS g y1 y2 y3 y4 y6 y8 κ
def kG (g : Int32 → Int32 → Int32 → Int64 → Int64 → Int32 → iS → Option (Int64 × iS)) (y1 y2 y3 : Int32) (y4 y6 : Int64) (y8 y9 y10 : Int32) (κ : iS) : Option (Int64 × iS) := if y9 = (y1 - (1 : Int32)) then Option.bind (m_X7_clears κ) fun r105 => l_X7_fairest_111 aF y1 y2 y3 y4 y6 y8 y9 (0 : Int32) r105 (kF g) else g y1 y2 y3 y4 y6 (y8 + 2) κ
def finF (y2 y3 : Int32) (y4 y6 : Int64) (κ : iS) : Option (Int64 × iS) := if y3 = (-1 : Int32) then some ((-1 : Int64), κ) else if y2 = 0 then some ((y3).toInt64, κ) else Option.bind (m_X7_terms y4 y6 (y2 - (1 : Int32)) κ) fun r251 => some (r251.1, r251.2)
theorem f51 (n : Nat) (y1 y2 y3 : Int32) (y4 y6 : Int64) (y8 : Int32) (ι : iS) : l_X7_fairest_51 (n + 1) y1 y2 y3 y4 y6 y8 ι = Option.bind (m_X7_persons ι) fun r55 => if ((1 : Int32) <<< (r55.1 &&& 31)) ≤ y8 then finF y2 y3 y4 y6 r55.2 else l_X7_fairest_68 aF y1 y2 y3 y4 y6 y8 (0 : Int32) (1 : Int32) r55.2 (kG (l_X7_fairest_51 n)) := by
  rw [l_X7_fairest_51]
  rfl
theorem Kd_here {P N j : Nat} (ht : 2 * j < 2 ^ P) : Kd P 1 N 0 (2 * j) ↔ sm (fun i => bit (1 + i) (2 * j)) (P - 1) = N := by
  unfold Kd
  exact ⟨fun h => h.2.2, fun h => ⟨by omega, ht, h⟩⟩
theorem Kd_next {P N j : Nat} (t : Nat) : (t < 2 * (j + 1) ∧ Kd P 1 N 0 t) ↔ (t < 2 * j ∧ Kd P 1 N 0 t) ∨ (t = 2 * j ∧ Kd P 1 N 0 (2 * j)) := by
  constructor
  · rintro ⟨h1, h2⟩
    have h3 : t % 2 ^ 1 = 0 := h2.1
    rcases Nat.lt_or_ge t (2 * j) with q | q
    · exact Or.inl ⟨q, h2⟩
    · have : t = 2 * j := by omega
      exact Or.inr ⟨this, this ▸ h2⟩
  · rintro (⟨h1, h2⟩ | ⟨rfl, h2⟩)
    · exact ⟨by omega, h2⟩
    · exact ⟨by omega, h2⟩
/-- one set more -/
theorem m_fair_step {r : Nat → Int32} {T P N j : Nat} {F : List (Nat × Nat)} {m : Nat → Nat} {y2 : Int32} {g : Int32 → Int32 → Int32 → Int64 → Int64 → Int32 → iS → Option (Int64 × iS)} (hT : T ≤ 5) (hP : 1 ≤ P ∧ P ≤ 16) (hN : 2 ≤ N ∧ N ≤ 8) (r0 : r 0 = nI T) (r1 : r 1 = nI (P - 1)) (hc : Coded r T F) (hm : ∀ k, k < P → mt r T F k 0 = nI (m k) ∧ m k ≤ 99) (ht : 2 * j < 2 ^ P) {Q : iS → Option (Int64 × iS) → Prop}
    (hQ : ∀ κ κ2 o, JT κ κ2 → Q κ2 o → Q κ o)
    (H : ∀ κ y3 y4 y6, gI κ 112 = r → Bm m P (fun t => t < 2 * (j + 1) ∧ Kd P 1 (N - 1) 0 t) y3 y4 y6 → Q κ (g (nI N) y2 y3 y4 y6 (nI (2 * (j + 1))) κ))
    {κ : iS} {y3 : Int32} {y4 y6 : Int64} (hr : gI κ 112 = r) (hB : Bm m P (fun t => t < 2 * j ∧ Kd P 1 (N - 1) 0 t) y3 y4 y6) : Q κ (l_X7_fairest_68 aF (nI N) y2 y3 y4 y6 (nI (2 * j)) 0 1 κ (kG g)) := by
  have hp16 : 2 ^ P ≤ 2 ^ 16 := Nat.pow_le_pow_right (by omega) hP.2
  have hm' : ∀ k, k < P → m k ≤ 99 := fun k hk => (hm k hk).2
  have epc := m_pc_loop (t := 2 * j) (y1 := nI N) (y2 := y2) (y3 := y3) (y4 := y4) (y6 := y6) (ι := κ) (kk := kG g) (by omega) 15 1 aF (by omega) (by omega) (by unfold aF; omega)
  have h2j : nI (2 * j) + 2 = nI (2 * (j + 1)) := nI_add (2 * j) 2
  have epc2 : l_X7_fairest_68 aF (nI N) y2 y3 y4 y6 (nI (2 * j)) 0 1 κ (kG g) = kG g (nI N) y2 y3 y4 y6 (nI (2 * j)) (nI (sm (fun i => bit (1 + i) (2 * j)) 15)) (nI 16) κ := epc
  rw [epc2, pc_15 hP ht]
  have hpcle : sm (fun i => bit (1 + i) (2 * j)) (P - 1) ≤ (P - 1) * 1 := sm_bd _ (fun k _ => by have := bit_lt (1 + k) (2 * j); omega)
  unfold kG
  rw [show nI N - 1 = nI (N - 1) from pk_sub (a := N) (b := 1) (by omega), h2j]
  by_cases hcnt : sm (fun i => bit (1 + i) (2 * j)) (P - 1) = N - 1
  · rw [if_pos (by rw [hcnt])]
    unfold m_X7_clears
    rw [Option.bind_some]
    have hK := (Kd_here ht).mpr hcnt
    have hX' : ∀ t, (t < 2 * (j + 1) ∧ Kd P 1 (N - 1) 0 t) ↔ (t < 2 * j ∧ Kd P 1 (N - 1) 0 t) ∨ t = 2 * j := fun t => (Kd_next t).trans ⟨fun h => h.imp_right (·.1), fun h => h.imp_right (⟨·, hK⟩)⟩
    obtain ⟨κ1, s1, s2, s3, s4⟩ := m_sum_loop (r := r) (T := T) (P := P) (t := 2 * j) (F := F) (m := m) (y1 := nI N) (y2 := y2) (y3 := y3) (y9 := nI (sm (fun i => bit (1 + i) (2 * j)) (P - 1))) (y4 := y4) (y6 := y6) (kk := kF g) hT hP r0 r1 hc hm (by omega) P 0 aF (pJ (pJ κ 109 18 0) 109 19 0) (by omega) (by unfold aF; omega) hr rfl rfl
    have s1 : l_X7_fairest_111 aF (nI N) y2 y3 y4 y6 (nI (2 * j)) (nI (sm (fun i => bit (1 + i) (2 * j)) (P - 1))) 0 (pJ (pJ κ 109 18 0) 109 19 0) (kF g) = kF g (nI N) y2 y3 y4 y6 (nI (2 * j)) (nI (sm (fun i => bit (1 + i) (2 * j)) (P - 1))) (nI P) κ1 := s1
    rw [s1]
    rw [psum_tot hP.1] at s3 s4
    have hb := m_bounds hP hm' (2 * j)
    have hjt : JT κ κ1 := JT.tr (b := pJ (pJ κ 109 18 0) 109 19 0) ⟨rfl, rfl, fun o k q1 q2 => by rw [gJ_pJ, if_neg (by omega), gJ_pJ, if_neg (by omega)]⟩ s2
    obtain ⟨κ2, k1, k2, k3, k4⟩ : ∃ κ2, JT κ κ2 ∧ gJ κ2 109 18 = lN (tot m P (2 * j)) ∧ gJ κ2 109 19 = lN (fB m P (2 * j)) ∧ kF g (nI N) y2 y3 y4 y6 (nI (2 * j)) (nI (sm (fun i => bit (1 + i) (2 * j)) (P - 1))) (nI P) κ1 = kS g (nI N) y2 y3 y4 y6 (nI (2 * j)) κ2 := by
      unfold kF
      by_cases h0 : tot (sqf m) P (2 * j) = 0
      · refine ⟨pJ κ1 109 19 1, hjt.tr ⟨rfl, rfl, fun o k q1 q2 => by rw [gJ_pJ, if_neg (by omega)]⟩, by rw [gJ_pJ, if_neg (by omega), s3], ?_, ?_⟩
        · rw [gJ_pJ, if_pos ⟨rfl, rfl⟩]
          unfold fB
          rw [h0]
          rfl
        · rw [if_pos (by rw [s4]; exact (lc0 (by omega)).mpr h0)]
      · refine ⟨κ1, hjt, s3, ?_, ?_⟩
        · rw [s4]
          unfold fB
          rw [show max 1 (tot (sqf m) P (2 * j)) = tot (sqf m) P (2 * j) by omega]
        · rw [if_neg (by rw [s4]; exact fun q => h0 ((lc0 (by omega)).mp q))]
    rw [k4]
    have hr2 : gI κ2 112 = r := by rw [k1.1]; exact hr
    refine hQ κ κ2 _ k1 ?_
    unfold kS
    rw [k2, k3, lN_mul, h2j, show tot m P (2 * j) * tot m P (2 * j) = fA m P (2 * j) from rfl]
    have hnew : fst' (fA m P) (fB m P) (fun t => t < 2 * (j + 1) ∧ Kd P 1 (N - 1) 0 t) (2 * j) → Q κ2 (g (nI N) y2 (nI (2 * j)) (lN (fA m P (2 * j))) (lN (fB m P (2 * j))) (nI (2 * (j + 1))) κ2) := fun hf => H κ2 _ _ _ hr2 (Or.inr ⟨2 * j, hf, by omega, rfl, rfl, rfl⟩)
    rcases hB with ⟨h1, h2⟩ | ⟨s, h2, hs, h3, h4, h5⟩
    · rw [if_pos h1]
      exact hnew ⟨(hX' _).mpr (Or.inr rfl), fun u hu => Or.inl (((hX' u).mp hu).resolve_left (h2 u))⟩
    · rw [if_neg (by rw [h3]; exact nI_nm1 (by omega)), h4, h5, lN_mul, lN_mul]
      have hb1 := m_bounds2 hP hm' s (2 * j)
      have hb2 := m_bounds2 hP hm' (2 * j) s
      have hslt : s < 2 * j := h2.1.1
      by_cases hgt : fA m P s * fB m P (2 * j) < fA m P (2 * j) * fB m P s
      · rw [if_pos ((lg_cmp_gt _ _).mpr ((pk_lLT (by omega) (by omega)).mpr hgt))]
        exact hnew (fst_new fB_pos h2 hX' (Or.inl hgt))
      · rw [if_neg (fun z => hgt ((pk_lLT (by omega) (by omega)).mp ((lg_cmp_gt _ _).mp z)))]
        have hno : ¬ bt (fA m P) (fB m P) (2 * j) s := fun z => by
          rcases z with z | ⟨-, z⟩
          · exact hgt z
          · omega
        exact H κ2 _ _ _ hr2 (Or.inr ⟨s, fst_old h2 hX' hno, hs, h3, rfl, rfl⟩)
  · rw [if_neg (fun q => hcnt ((nI_eq (by omega) (by omega)).mp q))]
    exact H κ _ _ _ hr (Bm_iff (fun t => (Kd_next t).trans ⟨fun h => h.resolve_right (fun q => hcnt ((Kd_here ht).mp q.2)), Or.inl⟩) hB)
theorem m_fair_loop {r : Nat → Int32} {T P N : Nat} {F : List (Nat × Nat)} {m : Nat → Nat} {y2 : Int32} (hT : T ≤ 5) (hP : 1 ≤ P ∧ P ≤ 16) (hN : 2 ≤ N ∧ N ≤ 8) (r0 : r 0 = nI T) (r1 : r 1 = nI (P - 1)) (hc : Coded r T F) (hm : ∀ k, k < P → mt r T F k 0 = nI (m k) ∧ m k ≤ 99) : ∀ d j n κ y3 y4 y6, j + d = 2 ^ (P - 1) → d < n → gI κ 112 = r → Bm m P (fun t => t < 2 * j ∧ Kd P 1 (N - 1) 0 t) y3 y4 y6 →
    ∃ κ' y3' y4' y6', l_X7_fairest_51 n (nI N) y2 y3 y4 y6 (nI (2 * j)) κ = finF y2 y3' y4' y6' κ' ∧ JT κ κ' ∧ Bm m P (fun t => Kd P 1 (N - 1) 0 t) y3' y4' y6' := by
  have hpw : 2 ^ P = 2 * 2 ^ (P - 1) := by
    obtain ⟨q, rfl⟩ : ∃ q, P = q + 1 := ⟨P - 1, by omega⟩
    rw [Nat.pow_succ, Nat.add_sub_cancel, Nat.mul_comm]
  have hp16 : 2 ^ P ≤ 2 ^ 16 := Nat.pow_le_pow_right (by omega) hP.2
  have hshl : (1 : Int32) <<< (nI P &&& 31) = nI (2 ^ P) := by
    have := pk_shlN (n := 1) (nI P &&& 31) P (sh_32 P (by omega)) (by omega)
    rw [Nat.one_mul] at this
    exact this
  have hpers : ∀ κ : iS, gI κ 112 = r → m_X7_persons κ = some (nI P, κ) := fun κ hr => by
    unfold m_X7_persons
    rw [hr, r1, show (1 : Int32) + nI (P - 1) = nI (1 + (P - 1)) from nI_add 1 _, show 1 + (P - 1) = P by omega]
  intro d
  induction d with
  | zero =>
    intro j n κ y3 y4 y6 hj hn hr hB
    obtain ⟨n, rfl⟩ : ∃ m, n = m + 1 := ⟨n - 1, by omega⟩
    refine ⟨κ, y3, y4, y6, ?_, JT.rf κ, Bm_iff (fun t => ⟨fun h => ⟨by have := h.2.1; omega, h⟩, fun h => h.2⟩) hB⟩
    rw [f51, hpers κ hr, Option.bind_some]
    dsimp only
    rw [hshl, if_pos (nI_le (by omega) (by omega))]
  | succ d ih =>
    intro j n κ y3 y4 y6 hj hn hr hB
    obtain ⟨n, rfl⟩ : ∃ m, n = m + 1 := ⟨n - 1, by omega⟩
    have ht : 2 * j < 2 ^ P := by omega
    rw [f51, hpers κ hr, Option.bind_some]
    dsimp only
    rw [hshl, if_neg (nI_ge ht (by omega))]
    refine m_fair_step (Q := fun κ o => ∃ κ' y3' y4' y6', o = finF y2 y3' y4' y6' κ' ∧ JT κ κ' ∧ Bm m P (fun t => Kd P 1 (N - 1) 0 t) y3' y4' y6') hT hP hN r0 r1 hc hm ht (fun κ κ2 o h1 h2 => ?_) (fun κ y3 y4 y6 hr hB => ih (j + 1) n κ y3 y4 y6 (by omega) (by omega) hr hB) hr hB
    obtain ⟨κ', a, b, c, e1, e2, e3⟩ := h2
    exact ⟨κ', a, b, c, e1, h1.tr e2, e3⟩
