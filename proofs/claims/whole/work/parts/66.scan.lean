/-- tokens from c on, the bytes from q on -/
def TF (ι : iS) (b : Nat → Nat) (n c C q : Nat) (p e : Nat → Nat) : Prop := c ≤ C ∧ C ≤ 500 ∧ gI ι 24 3 = nI (C + 1) ∧ gI ι 25 C = 0 ∧ (∀ k, c ≤ k → k ≤ C → gI ι 26 k = nI (p k)) ∧ p C = n ∧ (∀ i, q ≤ i → i < p c → b i = 32) ∧ q ≤ p c ∧
  ∀ k, c ≤ k → k < C → T1 ι b n k (p k) (e k) ∧ e k ≤ p (k + 1) ∧ ∀ i, e k ≤ i → i < p (k + 1) → b i = 32
theorem d_scan_loop {b : Nat → Nat} {n : Nat} {x : Int32} : ∀ d q j c m ι, q + d = n → DB ι b n → gI ι 24 3 = nI c → c ≤ q → j ≤ q → d < m → ∃ ι' C p e, l_X4_scan_32 m x (nI q) (nI j) ι = some ι' ∧ TF ι' b n c C q p e ∧ SF ι ι' c := by
  intro d
  induction d using Nat.strongRecOn with
  | ind d ih =>
    intro q j c m ι hq h h3 hcq hjq hm
    have hn := h.1
    obtain ⟨m, rfl⟩ : ∃ y, m = y + 1 := ⟨m - 1, by omega⟩
    by_cases hd : d = 0
    · subst hd
      obtain rfl : q = n := by omega
      obtain ⟨ι', e1, e2, e3, e4, e5, e6, e7, e8⟩ := d_put' (ι := ι) (c := c) (by omega) h3 0 (nI q) 0
      refine ⟨ι', c, fun _ => q, fun _ => q, ?_, ⟨Nat.le_refl c, by omega, e2, e3, fun k h1 h2 => ?_, rfl, fun i h1 h2 => by have h2 : i < q := h2; omega, Nat.le_refl q, fun k h1 h2 => by omega⟩, fun o k q1 q2 => e6 o k (by omega) q2, e7, e8⟩
      · rw [l_X4_scan_32, h.2.2.1]
        by_cases hj : (500 : Int32) ≤ nI j
        · rw [if_pos hj, e1]; rfl
        · rw [if_neg hj, if_pos (Int32.le_refl _), e1]; rfl
      · obtain rfl : k = c := by omega
        exact e4
    · have hqn : q < n := by omega
      have hbq := h.2.2.2 q hqn
      rw [l_X4_scan_32, if_neg (show ¬ (500 : Int32) ≤ nI j from nI_ge (a := j) (b := 500) (by omega) (by omega)), h.2.2.1, if_neg (nI_ge hqn (by omega)), if_pos h.2.1, if_pos (aIn_nI (by omega) (by omega)), nI_clamp (by omega), hbq.1, nI_1]
      by_cases h32 : b q = 32
      · rw [if_pos (show db (b q) = 32 from (db_eq (c := 32) hbq.2 (by omega)).mpr h32), nI_1]
        obtain ⟨ι', C, p, e, e1, e2, e3⟩ := ih (d - 1) (by omega) (q + 1) (j + 1) c m ι (by omega) h h3 (by omega) (by omega) (by omega)
        obtain ⟨f1, f2, f3, f4, f5, f6, f7, f8, f9⟩ := e2
        refine ⟨ι', C, p, e, e1, ⟨f1, f2, f3, f4, f5, f6, fun i h1 h2 => ?_, by omega, f9⟩, e3⟩
        by_cases z : i = q
        · rw [z]; exact h32
        · exact f7 i (by omega) h2
      · rw [if_neg (show ¬ db (b q) = 32 from fun z => h32 ((db_eq (c := 32) hbq.2 (by omega)).mp z))]
        obtain ⟨ek, ι1, g1, g2, g3, g4, g5⟩ := d_scanOne h (by omega) h3 hqn h32
        have g4' := g4
        obtain ⟨⟨k1, k2, -⟩, -⟩ := g4'
        obtain ⟨ι', C, p, e, e1, e2, e3⟩ := ih (n - ek) (by omega) ek (j + 1) (c + 1) m ι1 (by omega) (DB_cg h g5) g2 (by omega) (by omega) (by omega)
        obtain ⟨f1, f2, f3, f4, f5, f6, f7, f8, f9⟩ := e2
        refine ⟨ι', C, fun k => if k = c then q else p k, fun k => if k = c then ek else e k, ?_, ⟨by omega, f2, f3, f4, fun k h1 h2 => ?_, ?_, fun i h1 h2 => ?_, ?_, fun k h1 h2 => ?_⟩, fun o k q1 q2 => ?_, e3.2.1.trans g5.2.1, e3.2.2.trans g5.2.2⟩
        · rw [g1, Option.bind_some]
          dsimp only
          rw [nI_1]
          exact e1
        · dsimp only
          by_cases z : k = c
          · subst z
            rw [if_pos rfl, e3.1 _ _ (by omega) (by omega), g3]
          · rw [if_neg z]
            exact f5 k (by omega) h2
        · dsimp only
          rw [if_neg (by omega)]
          exact f6
        · dsimp only at h2
          rw [if_pos rfl] at h2
          omega
        · dsimp only
          rw [if_pos rfl]
          exact Nat.le_refl q
        · dsimp only
          by_cases z : k = c
          · subst z
            rw [if_pos rfl, if_pos rfl, if_neg (by omega)]
            exact ⟨T1_cg g4 (e3.1 _ _ (by omega) (by omega)) (e3.1 _ _ (by omega) (by omega)), f8, f7⟩
          · rw [if_neg z, if_neg z, if_neg (by omega)]
            exact f9 k (by omega) h2
        · rw [e3.1 o k (by omega) q2, g5.1 o k (by omega) q2]
/-- all tokens of a text -/
def TK (ι : iS) (b : Nat → Nat) (n C : Nat) (p e : Nat → Nat) : Prop := DB ι b n ∧ TF ι b n 0 C 0 p e
theorem d_scan {ι : iS} {b : Nat → Nat} {n : Nat} (hn : n ≤ 500) (hb : ∀ i, i < n → gI ι 1 i = db (b i) ∧ b i < 256) : ∃ ι' C p e, m_X4_scan (nI n) ι = some ι' ∧ TK ι' b n C p e ∧ (∀ o k, (o < 24 ∨ 27 < o) → gI ι' o k = gI ι o k) ∧ gJ ι' = gJ ι ∧ ∀ o k, o ≠ 24 → gP ι' o k = gP ι o k := by
  have h : DB (pI (pI (pP ι 24 4 (some 1)) 24 5 (nI n)) 24 3 0) b n := ⟨hn, by rw [gP_pI, gP_pI, gP_pP, if_pos ⟨rfl, rfl⟩], by rw [gI_p2 _ _ (by omega), gI_p1], fun i hi => by rw [gI_p2 _ _ (by omega), gI_p2 _ _ (by omega), gI_pP]; exact hb i hi⟩
  obtain ⟨ι', C, p, e, e1, e2, e3⟩ := d_scan_loop (x := nI n) n 0 0 0 aF _ (by omega) h (gI_p1 _ _ _ _) (by omega) (by omega) (by unfold aF; omega)
  refine ⟨ι', C, p, e, ?_, ⟨DB_cg h e3, e2⟩, fun o k q => ?_, e3.2.1, fun o k q => ?_⟩
  · unfold m_X4_scan m_X6_held
    rw [Option.bind_some]
    dsimp only
    have e500 : (if (0 : Int32) < (if nI n < (if (500 : Int32) < 500 then (500 : Int32) else 500) then nI n else (if (500 : Int32) < 500 then (500 : Int32) else 500)) then (if nI n < (if (500 : Int32) < 500 then (500 : Int32) else 500) then nI n else (if (500 : Int32) < 500 then (500 : Int32) else 500)) else 0) = nI n := by
      rw [if_neg (show ¬ (500 : Int32) < 500 by decide)]
      by_cases z : n < 500
      · rw [if_pos (show nI n < 500 from nI_lt (b := 500) z (by omega))]
        by_cases z0 : 0 < n
        · rw [if_pos (show (0 : Int32) < nI n from nI_lt (a := 0) z0 (by omega))]
        · rw [if_neg (show ¬ (0 : Int32) < nI n from nI_nlt (b := n) (a := 0) (by omega) (by omega)), show n = 0 by omega]
          rfl
      · obtain rfl : n = 500 := by omega
        decide
    rw [e500]
    exact e1
  · rw [e3.1 o k (by omega) (by omega), gI_p2 _ _ (by omega), gI_p2 _ _ (by omega), gI_pP]
  · rw [e3.2.2, gP_pI, gP_pI, gP_pP, if_neg (fun z => q z.1)]
/-! what the class asks of its tokens, by the bytes -/
theorem TK_lt {ι : iS} {b : Nat → Nat} {n C k : Nat} {p e : Nat → Nat} (h : TK ι b n C p e) (hk : k < C) : p k < n ∧ b (p k) ≠ 32 ∧ p k < e k ∧ e k ≤ n ∧ b (p k) < 256 := by
  obtain ⟨h1, f1, f2, f3, f4, f5, f6, f7, f8, f9⟩ := h
  obtain ⟨⟨⟨g1, g2, g3⟩, -⟩, -, -⟩ := f9 k (by omega) hk
  exact ⟨by omega, g3, g1, g2, (h1.2.2.2 (p k) (by omega)).2⟩
theorem d_isEnd {ι : iS} {b : Nat → Nat} {n C k : Nat} {p e : Nat → Nat} (h : TK ι b n C p e) (hk : k ≤ C) : m_X4_isEnd (nI k) ι = some (if k = C then 1 else 0, ι) := by
  obtain ⟨h1, f1, f2, f3, f4, f5, f6, f7, f8, f9⟩ := h
  unfold m_X4_isEnd
  rw [f3, if_neg (nI_ge (by omega) (by omega)), if_pos (aIn_nI (by omega) (by omega)), nI_clamp (by omega)]
  by_cases z : k = C
  · rw [if_pos (by rw [z]; exact f4), if_pos z]
  · obtain ⟨⟨-, g⟩, -⟩ := f9 k (by omega) (by omega)
    rw [if_neg (fun q => by rcases g with ⟨g, -⟩ | ⟨g, -⟩ | ⟨g, -⟩ <;> (rw [q] at g; revert g; decide)), if_neg z]
theorem d_isNumber {ι : iS} {b : Nat → Nat} {n C k : Nat} {p e : Nat → Nat} (h : TK ι b n C p e) (hk : k ≤ C) : (k < C ∧ dig (b (p k)) → m_X4_isNumber (nI k) ι = some (1, ι)) ∧ (¬ (k < C ∧ dig (b (p k))) → m_X4_isNumber (nI k) ι = some (0, ι)) := by
  obtain ⟨h1, f1, f2, f3, f4, f5, f6, f7, f8, f9⟩ := h
  unfold m_X4_isNumber
  rw [f3, if_neg (nI_ge (by omega) (by omega)), if_pos (aIn_nI (by omega) (by omega)), nI_clamp (by omega)]
  refine ⟨fun ⟨q1, q2⟩ => ?_, fun q => ?_⟩
  · obtain ⟨⟨⟨g1, -⟩, g⟩, -⟩ := f9 k (by omega) q1
    rcases g with ⟨g, -, z, -⟩ | ⟨g, -⟩ | ⟨g, -, -, -, z⟩
    · have := z (p k) (Nat.le_refl _) g1
      have := this.1
      have := q2.2
      omega
    · rw [if_pos g]
    · exact absurd q2 z
  · by_cases z : k = C
    · rw [if_neg (by rw [z, f4]; decide)]
    · obtain ⟨⟨⟨g1, -⟩, g⟩, -⟩ := f9 k (by omega) (by omega)
      rw [if_neg (fun w => ?_)]
      rcases g with ⟨g, -⟩ | ⟨g, -, y, -⟩ | ⟨g, -⟩
      · rw [w] at g; revert g; decide
      · exact q ⟨by omega, y (p k) (Nat.le_refl _) g1⟩
      · rw [w] at g; revert g; decide
/-- a sign: no blank, no letter, no digit -/
def sgn (c : Nat) : Prop := c < 128 ∧ ¬ let' c ∧ ¬ dig c
theorem d_isSign {ι : iS} {b : Nat → Nat} {n C k c : Nat} {p e : Nat → Nat} (h : TK ι b n C p e) (hk : k ≤ C) (hc : sgn c) : (k < C ∧ b (p k) = c → m_X4_isSign (nI k) (nI c) ι = some (1, ι)) ∧ (¬ (k < C ∧ b (p k) = c) → m_X4_isSign (nI k) (nI c) ι = some (0, ι)) := by
  have hlt := fun q => TK_lt h (k := k) q
  obtain ⟨h1, f1, f2, f3, f4, f5, f6, f7, f8, f9⟩ := h
  unfold m_X4_isSign
  rw [f3, if_neg (nI_ge (by omega) (by omega)), if_pos (aIn_nI (by omega) (by omega)), if_pos (aIn_nI (by omega) (by omega)), nI_clamp (by omega)]
  refine ⟨fun ⟨q1, q2⟩ => ?_, fun q => ?_⟩
  · obtain ⟨⟨⟨g1, -⟩, g⟩, -⟩ := f9 k (by omega) q1
    rcases g with ⟨g, -, z, -⟩ | ⟨g, -, z, -⟩ | ⟨g, g2, -⟩
    · exact absurd (q2 ▸ z (p k) (Nat.le_refl _) g1) hc.2.1
    · exact absurd (q2 ▸ z (p k) (Nat.le_refl _) g1) hc.2.2
    · rw [if_pos g, g2, q2, if_pos (show db c = nI c from if_pos hc.1)]
  · by_cases z : k = C
    · rw [if_neg (by rw [z, f4]; decide)]
    · obtain ⟨⟨⟨g1, -⟩, g⟩, -⟩ := f9 k (by omega) (by omega)
      have hl := hlt (by omega)
      rcases g with ⟨g, -⟩ | ⟨g, -⟩ | ⟨g, g2, -⟩
      · rw [if_neg (by rw [g]; decide)]
      · rw [if_neg (by rw [g]; decide)]
      · rw [if_pos g, g2, if_neg (fun w => q ⟨by omega, (db_eq hl.2.2.2.2 hc.1).mp w⟩)]
theorem d_placeAt {ι : iS} {b : Nat → Nat} {n C k : Nat} {p e : Nat → Nat} (h : TK ι b n C p e) (hk : k ≤ C) : m_X4_placeAt (nI k) ι = some (nI (p k), ι) := by
  obtain ⟨h1, f1, f2, f3, f4, f5, f6, f7, f8, f9⟩ := h
  unfold m_X4_placeAt
  rw [f3, if_neg (nI_ge (by omega) (by omega)), if_pos (aIn_nI (by omega) (by omega)), nI_clamp (by omega), f5 k (by omega) hk]
theorem d_content {ι : iS} {b : Nat → Nat} {n C k : Nat} {p e : Nat → Nat} (h : TK ι b n C p e) (hk : k < C) (hd : dig (b (p k))) : m_X4_contentAt (nI k) ι = some (nI (min 1000 (val b (p k) (e k - p k))), ι) ∧ (∀ i, p k ≤ i → i < e k → dig (b i)) ∧ (e k = n ∨ ¬ dig (b (e k))) := by
  obtain ⟨h1, f1, f2, f3, f4, f5, f6, f7, f8, f9⟩ := h
  obtain ⟨⟨⟨g1, -⟩, g⟩, -⟩ := f9 k (by omega) hk
  unfold m_X4_contentAt
  rw [f3, if_neg (nI_ge (by omega) (by omega)), if_pos (aIn_nI (by omega) (by omega)), nI_clamp (by omega)]
  rcases g with ⟨g, -, z, -⟩ | ⟨g, g2, g3, g4⟩ | ⟨g, -, -, -, z⟩
  · have := z (p k) (Nat.le_refl _) g1
    have := this.1
    have := hd.2
    omega
  · exact ⟨by rw [g2], g3, g4⟩
  · exact absurd hd z
/-- a word x stands at the byte s -/
def Wd (b : Nat → Nat) (n x s : Nat) : Prop := s + aLen.getD x 0 ≤ n ∧ (∀ j, j < aLen.getD x 0 → nI (b (s + j)) = sCh x j) ∧ (s + aLen.getD x 0 = n ∨ ¬ let' (b (s + aLen.getD x 0)))
theorem wd_pos : ∀ x, x < 12 → 0 < aLen.getD x 0 ∧ aLen.getD x 0 < 8 := by decide
theorem wd_let : ∀ x, x < 12 → ∀ j, j < aLen.getD x 0 → ∃ c, c < 128 ∧ let' c ∧ sCh x j = nI c := by
  have h : ∀ x, x < 12 → ∀ j, j < aLen.getD x 0 → (97 ≤ (sCh x j).toNatClampNeg ∧ (sCh x j).toNatClampNeg ≤ 122 ∧ sCh x j = nI (sCh x j).toNatClampNeg) := by decide +kernel
  intro x hx j hj
  obtain ⟨h1, h2, h3⟩ := h x hx j hj
  exact ⟨_, by omega, ⟨h1, h2⟩, h3⟩
