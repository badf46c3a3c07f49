/-! a text cut into words, numbers and signs: what the class's scan lays down, byte for byte -/
def db (x : Nat) : Int32 := if x < 128 then nI x else nI x - 256
def let' (x : Nat) : Prop := 97 ≤ x ∧ x ≤ 122
def dig (x : Nat) : Prop := 48 ≤ x ∧ x ≤ 57
theorem db_toInt {x : Nat} (h : x < 256) : (db x).toInt = if x < 128 then (x : Int) else (x : Int) - 256 := by
  unfold db
  by_cases q : x < 128
  · rw [if_pos q, if_pos q, nI_toInt (by omega)]
  · rw [if_neg q, if_neg q]
    exact pk_sub_toInt (a := x) (b := 256) (by omega) (by omega)
theorem db_lt {x c : Nat} (h : x < 256) (hc : c < 128) : db x < nI c ↔ (x < c ∨ 128 ≤ x) := by
  rw [Int32.lt_iff_toInt_lt, db_toInt h, nI_toInt (by omega)]
  by_cases q : x < 128
  · rw [if_pos q]; omega
  · rw [if_neg q]; omega
theorem db_gt {x c : Nat} (h : x < 256) (hc : c < 128) : nI c < db x ↔ (c < x ∧ x < 128) := by
  rw [Int32.lt_iff_toInt_lt, db_toInt h, nI_toInt (by omega)]
  by_cases q : x < 128
  · rw [if_pos q]; omega
  · rw [if_neg q]; omega
theorem db_eq {x c : Nat} (h : x < 256) (hc : c < 128) : db x = nI c ↔ x = c := by
  rw [← Int32.toInt_inj, db_toInt h, nI_toInt (by omega)]
  by_cases q : x < 128
  · rw [if_pos q]; omega
  · rw [if_neg q]; omega
theorem byteR_db {x y : Int32} (h : byteR x y) : ∃ c, c < 256 ∧ x = db c ∧ y = nI c := by
  obtain ⟨c, h1, h2, h3⟩ := h
  exact ⟨c, h1, h3, h2⟩
/-- the bytes of a text, as both sides hold them -/
def DB (ι : iS) (b : Nat → Nat) (n : Nat) : Prop := n ≤ 500 ∧ gP ι 24 4 = some 1 ∧ gI ι 24 5 = nI n ∧ ∀ i, i < n → gI ι 1 i = db (b i) ∧ b i < 256
theorem d_letter {ι : iS} {b : Nat → Nat} {n i : Nat} (h : DB ι b n) (hi : i < n) : (let' (b i) → m_X4_isLetter (nI i) ι = some (1, ι)) ∧ (¬ let' (b i) → m_X4_isLetter (nI i) ι = some (0, ι)) := by
  obtain ⟨h1, h2, h3, h4⟩ := h
  obtain ⟨e1, e2⟩ := h4 i hi
  unfold m_X4_isLetter
  rw [if_pos h2, if_pos h2, if_pos (aIn_nI (by omega) (by omega)), if_pos (aIn_nI (by omega) (by omega)), nI_clamp (by omega), e1]
  refine ⟨fun q => ?_, fun q => ?_⟩
  · rw [if_neg (show ¬ db (b i) < 97 from fun z => by have := (db_lt (c := 97) e2 (by omega)).mp z; have := q.1; have := q.2; omega), if_neg (show ¬ 122 < db (b i) from fun z => by have := (db_gt (c := 122) e2 (by omega)).mp z; have := q.2; omega)]
  · by_cases z : db (b i) < 97
    · rw [if_pos z]
    · have z1 : ¬ (b i < 97 ∨ 128 ≤ b i) := fun w => z ((db_lt (c := 97) e2 (by omega)).mpr w)
      rw [if_neg z, if_pos (show 122 < db (b i) from (db_gt (c := 122) e2 (by omega)).mpr (by
        have : ¬ b i ≤ 122 := fun w => q ⟨by omega, w⟩
        omega))]
theorem d_digit {ι : iS} {b : Nat → Nat} {n i : Nat} (h : DB ι b n) (hi : i < n) : (dig (b i) → m_X4_isDigit (nI i) ι = some (1, ι)) ∧ (¬ dig (b i) → m_X4_isDigit (nI i) ι = some (0, ι)) := by
  obtain ⟨h1, h2, h3, h4⟩ := h
  obtain ⟨e1, e2⟩ := h4 i hi
  unfold m_X4_isDigit
  rw [if_pos h2, if_pos h2, if_pos (aIn_nI (by omega) (by omega)), if_pos (aIn_nI (by omega) (by omega)), nI_clamp (by omega), e1]
  refine ⟨fun q => ?_, fun q => ?_⟩
  · rw [if_neg (show ¬ db (b i) < 48 from fun z => by have := (db_lt (c := 48) e2 (by omega)).mp z; have := q.1; have := q.2; omega), if_neg (show ¬ 57 < db (b i) from fun z => by have := (db_gt (c := 57) e2 (by omega)).mp z; have := q.2; omega)]
  · by_cases z : db (b i) < 48
    · rw [if_pos z]
    · have z1 : ¬ (b i < 48 ∨ 128 ≤ b i) := fun w => z ((db_lt (c := 48) e2 (by omega)).mpr w)
      rw [if_neg z, if_pos (show 57 < db (b i) from (db_gt (c := 57) e2 (by omega)).mpr (by
        have : ¬ b i ≤ 57 := fun w => q ⟨by omega, w⟩
        omega))]
theorem d_put' {ι : iS} {c : Nat} (hc : c ≤ 500) (h : gI ι 24 3 = nI c) (x1 x2 x3 : Int32) : ∃ ι', m_X4_put x1 x2 x3 ι = some ι' ∧ gI ι' 24 3 = nI (c + 1) ∧ gI ι' 25 c = x1 ∧ gI ι' 26 c = x2 ∧ gI ι' 27 c = x3 ∧ (∀ o k, ¬ ((o = 25 ∨ o = 26 ∨ o = 27) ∧ k = c) → ¬ (o = 24 ∧ k = 3) → gI ι' o k = gI ι o k) ∧ gJ ι' = gJ ι ∧ gP ι' = gP ι := by
  refine ⟨pI (pI (pI (pI ι 25 c x1) 26 c x2) 27 c x3) 24 3 (nI (c + 1)), ?_, gI_p1 _ _ _ _, ?_, ?_, ?_, fun o k q1 q2 => ?_, rfl, rfl⟩
  · unfold m_X4_put
    have e1 : gI (pI ι 25 c x1) 24 3 = nI c := (gI_p2 _ _ (by omega)).trans h
    have e2 : gI (pI (pI ι 25 c x1) 26 c x2) 24 3 = nI c := (gI_p2 _ _ (by omega)).trans e1
    have e3 : gI (pI (pI (pI ι 25 c x1) 26 c x2) 27 c x3) 24 3 = nI c := (gI_p2 _ _ (by omega)).trans e2
    rw [h, if_neg (show ¬ (501 : Int32) ≤ nI c from nI_ge (a := c) (b := 501) (by omega) (by omega)), if_pos (aIn_nI (by omega) (by omega)), nI_clamp (by omega), e1, if_pos (aIn_nI (by omega) (by omega)), nI_clamp (by omega), e2, if_pos (aIn_nI (by omega) (by omega)), nI_clamp (by omega), e3, nI_1]
  · rw [gI_p2 _ _ (by omega), gI_p2 _ _ (by omega), gI_p2 _ _ (by omega), gI_p1]
  · rw [gI_p2 _ _ (by omega), gI_p2 _ _ (by omega), gI_p1]
  · rw [gI_p2 _ _ (by omega), gI_p1]
  · rw [gI_p2 _ _ q2, gI_p2 _ _ (by omega), gI_p2 _ _ (by omega), gI_p2 _ _ (by omega)]
/-- a number's worth, held at 100000 -/
def val (b : Nat → Nat) (s : Nat) : Nat → Nat
  | 0 => 0
  | l + 1 => min 100000 (10 * val b s l + (b (s + l) - 48))
theorem val_le (b : Nat → Nat) (s : Nat) : ∀ l, val b s l ≤ 100000 := by
  intro l
  cases l with
  | zero => rw [val]; omega
  | succ l => rw [val]; omega
/-- one token: its kind and content, by the bytes from pk to ek -/
def T1 (ι : iS) (b : Nat → Nat) (n k pk ek : Nat) : Prop := (pk < ek ∧ ek ≤ n ∧ b pk ≠ 32) ∧
  ((gI ι 25 k = 1 ∧ gI ι 27 k = nI (ek - pk) ∧ (∀ i, pk ≤ i → i < ek → let' (b i)) ∧ (ek = n ∨ ¬ let' (b ek))) ∨
   (gI ι 25 k = 2 ∧ gI ι 27 k = nI (min 1000 (val b pk (ek - pk))) ∧ (∀ i, pk ≤ i → i < ek → dig (b i)) ∧ (ek = n ∨ ¬ dig (b ek))) ∨
   (gI ι 25 k = 3 ∧ gI ι 27 k = db (b pk) ∧ ek = pk + 1 ∧ ¬ let' (b pk) ∧ ¬ dig (b pk)))
def SF (ι ι' : iS) (c : Nat) : Prop := (∀ o k, ¬ ((o = 25 ∨ o = 26 ∨ o = 27) ∧ c ≤ k) → ¬ (o = 24 ∧ k = 3) → gI ι' o k = gI ι o k) ∧ gJ ι' = gJ ι ∧ gP ι' = gP ι
theorem DB_cg {ι ι' : iS} {b : Nat → Nat} {n c : Nat} (h : DB ι b n) (hs : SF ι ι' c) : DB ι' b n := ⟨h.1, by rw [hs.2.2]; exact h.2.1, by rw [hs.1 _ _ (by omega) (by omega)]; exact h.2.2.1, fun i hi => by rw [hs.1 _ _ (by omega) (by omega)]; exact h.2.2.2 i hi⟩
theorem T1_cg {ι ι' : iS} {b : Nat → Nat} {n k pk ek : Nat} (h : T1 ι b n k pk ek) (h1 : gI ι' 25 k = gI ι 25 k) (h2 : gI ι' 27 k = gI ι 27 k) : T1 ι' b n k pk ek := by
  unfold T1 at *
  rw [h1, h2]
  exact h
theorem d_word_loop {ι : iS} {b : Nat → Nat} {n c s : Nat} (h : DB ι b n) (hc : c ≤ 500) (h3 : gI ι 24 3 = nI c) (hs : s < n) (hb : b s ≠ 32) (hl : let' (b s)) : ∀ d q m, q + d = n → s < q → d < m → (∀ i, s ≤ i → i < q → let' (b i)) → ∃ ek ι', l_X4_scanOne_10 m (nI s) (nI q) ι = some (nI ek, ι') ∧ gI ι' 24 3 = nI (c + 1) ∧ gI ι' 26 c = nI s ∧ T1 ι' b n c s ek ∧ SF ι ι' c := by
  have hfin : ∀ q, s < q → q ≤ n → (∀ i, s ≤ i → i < q → let' (b i)) → (q = n ∨ ¬ let' (b q)) → ∃ ek ι', (Option.bind (m_X4_put (1 : Int32) (nI s) (nI q - nI s) ι) fun r38 => some (nI q, r38)) = some (nI ek, ι') ∧ gI ι' 24 3 = nI (c + 1) ∧ gI ι' 26 c = nI s ∧ T1 ι' b n c s ek ∧ SF ι ι' c := by
    intro q h1 h2 h4 h5
    obtain ⟨ι', e1, e2, e3, e4, e5, e6, e7, e8⟩ := d_put' hc h3 1 (nI s) (nI q - nI s)
    refine ⟨q, ι', by rw [e1]; rfl, e2, e4, ⟨⟨h1, h2, hb⟩, Or.inl ⟨e3, by rw [e5, pk_sub (by omega)], h4, h5⟩⟩, fun o k q1 q2 => e6 o k (by omega) q2, e7, e8⟩
  have hn := h.1
  intro d
  induction d with
  | zero =>
    intro q m hq hsq hm hall
    obtain ⟨m, rfl⟩ : ∃ x, m = x + 1 := ⟨m - 1, by omega⟩
    rw [l_X4_scanOne_10, h.2.2.1, if_pos (nI_le (by omega) (by omega))]
    exact hfin q hsq (by omega) hall (Or.inl (by omega))
  | succ d ih =>
    intro q m hq hsq hm hall
    obtain ⟨m, rfl⟩ : ∃ x, m = x + 1 := ⟨m - 1, by omega⟩
    rw [l_X4_scanOne_10, h.2.2.1, if_neg (nI_ge (by omega) (by omega))]
    by_cases hq2 : let' (b q)
    · rw [(d_letter h (by omega)).1 hq2, Option.bind_some]
      dsimp only
      rw [if_neg i10, nI_1]
      exact ih (q + 1) m (by omega) (by omega) (by omega) (fun i h1 h2 => by
        by_cases z : i = q
        · rw [z]; exact hq2
        · exact hall i h1 (by omega))
    · rw [(d_letter h (by omega)).2 hq2, Option.bind_some]
      dsimp only
      rw [if_pos rfl]
      exact hfin q hsq (by omega) hall (Or.inr hq2)
theorem d_num_loop {ι : iS} {b : Nat → Nat} {n c s : Nat} (h : DB ι b n) (hc : c ≤ 500) (h3 : gI ι 24 3 = nI c) (hs : s < n) (hb : b s ≠ 32) (hl : dig (b s)) : ∀ d q m, q + d = n → s ≤ q → d < m → (∀ i, s ≤ i → i < q → dig (b i)) → ∃ ek ι', l_X4_scanOne_69 m (nI s) (nI q) (nI (min 1000 (val b s (q - s)))) ι = some (nI ek, ι') ∧ gI ι' 24 3 = nI (c + 1) ∧ gI ι' 26 c = nI s ∧ T1 ι' b n c s ek ∧ SF ι ι' c := by
  have hfin : ∀ q, s < q → q ≤ n → (∀ i, s ≤ i → i < q → dig (b i)) → (q = n ∨ ¬ dig (b q)) → ∃ ek ι', (Option.bind (m_X4_put (2 : Int32) (nI s) (nI (min 1000 (val b s (q - s)))) ι) fun r38 => some (nI q, r38)) = some (nI ek, ι') ∧ gI ι' 24 3 = nI (c + 1) ∧ gI ι' 26 c = nI s ∧ T1 ι' b n c s ek ∧ SF ι ι' c := by
    intro q h1 h2 h4 h5
    obtain ⟨ι', e1, e2, e3, e4, e5, e6, e7, e8⟩ := d_put' hc h3 2 (nI s) (nI (min 1000 (val b s (q - s))))
    exact ⟨q, ι', by rw [e1]; rfl, e2, e4, ⟨⟨h1, h2, hb⟩, Or.inr (Or.inl ⟨e3, e5, h4, h5⟩)⟩, fun o k q1 q2 => e6 o k (by omega) q2, e7, e8⟩
  have hn := h.1
  intro d
  induction d with
  | zero =>
    intro q m hq hsq hm hall
    obtain ⟨m, rfl⟩ : ∃ x, m = x + 1 := ⟨m - 1, by omega⟩
    rw [l_X4_scanOne_69, h.2.2.1, if_pos (nI_le (by omega) (by omega))]
    exact hfin q (by omega) (by omega) hall (Or.inl (by omega))
  | succ d ih =>
    intro q m hq hsq hm hall
    obtain ⟨m, rfl⟩ : ∃ x, m = x + 1 := ⟨m - 1, by omega⟩
    rw [l_X4_scanOne_69, h.2.2.1, if_neg (nI_ge (by omega) (by omega))]
    by_cases hq2 : dig (b q)
    · have hbq := h.2.2.2 q (by omega)
      have hv := val_le b s (q - s)
      have hdb : db (b q) = nI (b q) := if_pos (by have := hq2.2; omega)
      rw [(d_digit h (by omega)).1 hq2, Option.bind_some]
      dsimp only
      have hstep : (if ((((10 : Int32) * nI (min 1000 (val b s (q - s)))) + nI (b q)) - (48 : Int32)) < (1000 : Int32) then ((((10 : Int32) * nI (min 1000 (val b s (q - s)))) + nI (b q)) - (48 : Int32)) else (1000 : Int32)) = nI (min 1000 (val b s (q + 1 - s))) := by
        have e : (((10 : Int32) * nI (min 1000 (val b s (q - s)))) + nI (b q)) - (48 : Int32) = nI (10 * min 1000 (val b s (q - s)) + b q - 48) := by
          rw [show (10 : Int32) = nI 10 from rfl, pk_mul, nI_add, show (48 : Int32) = nI 48 from rfl, pk_sub (by have := hq2.1; omega)]
        have h1 := hq2.1
        have h2 := hq2.2
        rw [e, show q + 1 - s = q - s + 1 by omega, val, show s + (q - s) = q by omega]
        by_cases z : 10 * min 1000 (val b s (q - s)) + b q - 48 < 1000
        · rw [if_pos (show nI (10 * min 1000 (val b s (q - s)) + b q - 48) < 1000 from nI_lt (b := 1000) z (by omega))]
          congr 1
          omega
        · rw [if_neg (show ¬ nI (10 * min 1000 (val b s (q - s)) + b q - 48) < 1000 from nI_nlt (b := 1000) (by omega) (by omega)), show (1000 : Int32) = nI 1000 from rfl]
          congr 1
          omega
      rw [if_neg i10, if_pos h.2.1, if_pos (aIn_nI (by omega) (by omega)), nI_clamp (by omega), hbq.1, hdb, hstep, nI_1]
      exact ih (q + 1) m (by omega) (by omega) (by omega) (fun i h1 h2 => by
        by_cases z : i = q
        · rw [z]; exact hq2
        · exact hall i h1 (by omega))
    · rw [(d_digit h (by omega)).2 hq2, Option.bind_some]
      dsimp only
      rw [if_pos rfl]
      refine hfin q (Nat.lt_of_le_of_ne hsq (fun z => hq2 (z ▸ hl))) (by omega) hall (Or.inr hq2)
theorem d_scanOne {ι : iS} {b : Nat → Nat} {n c s : Nat} (h : DB ι b n) (hc : c ≤ 500) (h3 : gI ι 24 3 = nI c) (hs : s < n) (hb : b s ≠ 32) : ∃ ek ι', m_X4_scanOne (nI s) ι = some (nI ek, ι') ∧ gI ι' 24 3 = nI (c + 1) ∧ gI ι' 26 c = nI s ∧ T1 ι' b n c s ek ∧ SF ι ι' c := by
  have hn := h.1
  unfold m_X4_scanOne
  by_cases hl : let' (b s)
  · rw [(d_letter h hs).1 hl, Option.bind_some]
    dsimp only
    rw [if_neg i10]
    have hz := d_word_loop h hc h3 hs hb hl (n - (s + 1)) (s + 1) (aF - 1) (by omega) (by omega) (by unfold aF; omega) (fun i h1 h2 => by
      have : i = s := by omega
      rw [this]; exact hl)
    obtain ⟨ek, ι', e1, e2⟩ := hz
    refine ⟨ek, ι', ?_, e2⟩
    rw [show aF = (aF - 1) + 1 from rfl, l_X4_scanOne_10, h.2.2.1, if_neg (nI_ge hs (by omega)), (d_letter h hs).1 hl, Option.bind_some]
    dsimp only
    rw [if_neg i10, nI_1]
    exact e1
  · rw [(d_letter h hs).2 hl, Option.bind_some]
    dsimp only
    rw [if_pos rfl]
    by_cases hd : dig (b s)
    · rw [(d_digit h hs).1 hd, Option.bind_some]
      dsimp only
      rw [if_neg i10]
      have hz := d_num_loop h hc h3 hs hb hd (n - s) s aF (by omega) (Nat.le_refl s) (by unfold aF; omega) (fun i h1 h2 => by omega)
      rw [Nat.sub_self, val] at hz
      exact hz
    · rw [(d_digit h hs).2 hd, Option.bind_some]
      dsimp only
      rw [if_pos rfl, if_pos h.2.1, if_pos (aIn_nI (by omega) (by omega)), nI_clamp (by omega)]
      obtain ⟨ι', e1, e2, e3, e4, e5, e6, e7, e8⟩ := d_put' hc h3 3 (nI s) (gI ι 1 s)
      refine ⟨s + 1, ι', by rw [e1, nI_1]; rfl, e2, e4, ⟨⟨by omega, by omega, hb⟩, Or.inr (Or.inr ⟨e3, by rw [e5, (h.2.2.2 s hs).1], rfl, hl, hd⟩)⟩, fun o k q1 q2 => e6 o k (by omega) q2, e7, e8⟩
