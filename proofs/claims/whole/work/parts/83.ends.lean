/-! how a text ends, on both sides -/
def mRest (κ : iS) : Option (Int32 × iS) := Option.bind (m_X7_remembers κ) fun r234 => Option.bind (m_X7_copies 113 112 r234) fun r245 => Option.bind (m_X7_persons r245) fun r249 => some (r249.1, r249.2)
theorem m_207 {S : Nat} {y1 : Int32} (hS : S ≤ 8) : ∀ d k m κ, k + d = S → d < m → gI κ 113 3 = nI S → ∃ κ', l_X7_text_207 m y1 (nI k) κ = mRest κ' ∧ (∀ i, k ≤ i → i < S → gI κ' 113 (99 + i) = nI i) ∧ (∀ o i, ¬ (o = 113 ∧ 99 + k ≤ i ∧ i < 99 + S) → gI κ' o i = gI κ o i) ∧ gJ κ' = gJ κ ∧ gP κ' = gP κ := by
  intro d
  induction d with
  | zero =>
    intro k m κ hk hm h3
    obtain ⟨m, rfl⟩ : ∃ y, m = y + 1 := ⟨m - 1, by omega⟩
    obtain rfl : k = S := by omega
    refine ⟨κ, ?_, fun i h1 h2 => by omega, fun _ _ _ => rfl, rfl, rfl⟩
    rw [l_X7_text_207, h3, if_pos (Int32.le_refl _)]
    rfl
  | succ d ih =>
    intro k m κ hk hm h3
    obtain ⟨m, rfl⟩ : ∃ y, m = y + 1 := ⟨m - 1, by omega⟩
    obtain ⟨κ', e1, e2, e3, e4, e5⟩ := ih (k + 1) m (pI κ 113 (99 + k) (nI k)) (by omega) (by omega) (by rw [gI_p2 _ _ (by omega)]; exact h3)
    refine ⟨κ', ?_, fun i h1 h2 => ?_, fun o i q => by rw [e3 o i (by omega), gI_p2 _ _ (by omega)], e4, e5⟩
    · rw [l_X7_text_207, h3, if_neg (nI_ge (by omega) (by omega)), show (99 : Int32) + nI k = nI (99 + k) from nI_add 99 k, if_pos (aIn_nI (by omega) (by omega)), nI_clamp (by omega), nI_1]
      exact e1
    · by_cases z : i = k
      · subst z; rw [e3 _ _ (by omega), gI_p1]
      · exact e2 i (by omega) h2
def DFr (ι ι' : iS) : Prop := (∀ o i, (o < 11 ∨ 27 < o) → gI ι' o i = gI ι o i) ∧ ∀ o k, o ≠ 24 → gP ι' o k = gP ι o k
def MFr (κ κ' : iS) : Prop := (∀ o i, o ≠ 113 → ¬ (o = 109 ∧ ((3 ≤ i ∧ i < 8) ∨ i = 13 ∨ i = 14 ∨ i = 15)) → gI κ' o i = gI κ o i) ∧ gJ κ' = gJ κ ∧ gP κ' = gP κ
theorem DFr.tr {a b c : iS} (h1 : DFr a b) (h2 : DFr b c) : DFr a c := ⟨fun o i q => (h2.1 o i q).trans (h1.1 o i q), fun o k q => (h2.2 o k q).trans (h1.2 o k q)⟩
theorem MFr.tr {a b c : iS} (h1 : MFr a b) (h2 : MFr b c) : MFr a c := ⟨fun o i q w => (h2.1 o i q w).trans (h1.1 o i q w), h2.2.1.trans h1.2.1, h2.2.2.trans h1.2.2⟩
theorem DW_fr {a b : iS} (h : DW a b) : DFr a b := ⟨fun o i q => h.1 o i (by omega), fun o k _ => by rw [h.2.2]⟩
theorem MW_fr {a b : iS} (h : MW a b) : MFr a b := ⟨fun o i q w => h.1 o i q (by omega), h.2.1, h.2.2⟩
theorem MFr.at' {a b : iS} (h : MFr a b) {k : Nat} (v : Int32) (hk : (3 ≤ k ∧ k < 8) ∨ k = 13 ∨ k = 14 ∨ k = 15) : MFr a (pI b 109 k v) := ⟨fun y i q w => by rw [gI_p2 _ _ (fun z => w ⟨z.1, by omega⟩)]; exact h.1 y i q w, h.2.1, h.2.2⟩
/-- what a text leaves: a draft that is one lineup on both sides, or one fault at one place -/
def TxJ (ι κ : iS) (Dk Mk : Option (Int32 × iS)) : Prop :=
  (∃ ι' κ', Dk = some (0, ι') ∧ Mk = mRest κ' ∧ LR (blk ι' 12) (gI κ' 113) ∧ gI ι' 11 2 = gI κ' 109 5 ∧ DFr ι ι' ∧ MFr κ κ') ∨ (∃ ι' κ' f, 1 ≤ f ∧ f ≤ 5 ∧ Dk = some (nI f, ι') ∧ Mk = some (nI f - 10, κ') ∧ gI ι' 11 2 = gI κ' 109 5 ∧ DFr ι ι' ∧ MFr κ κ')
theorem TxJ_tr {ι κ ι1 κ1 : iS} {Dk Mk : Option (Int32 × iS)} (h : TxJ ι1 κ1 Dk Mk) (hD : DFr ι ι1) (hM : MFr κ κ1) : TxJ ι κ Dk Mk := by
  rcases h with ⟨ι', κ', h1, h2, h3, h4, h5, h6⟩ | ⟨ι', κ', f, h1, h2, h3, h4, h5, h6, h7⟩
  · exact Or.inl ⟨ι', κ', h1, h2, h3, h4, hD.tr h5, hM.tr h6⟩
  · exact Or.inr ⟨ι', κ', f, h1, h2, h3, h4, h5, hD.tr h6, hM.tr h7⟩
section EN
variable {b : Nat → Nat} {n C : Nat} {p e : Nat → Nat}
theorem e_fault {ι κ : iS} {f s : Nat} {y1 : Int32} (h : Flt ι κ f s) : TxJ ι κ (dEnd ι) (mEnd y1 κ) := by
  have h6 := Flt_6 h
  obtain ⟨f1, f2, f3, f4, f5, f6, f7⟩ := h
  have h4 : ¬ gI ι 11 4 = 0 := by rw [f3]; exact nI_ne0 (by omega) (by omega)
  have f4' : m_X4_placeAt (gI ι 11 5) ι = some (nI s, ι) := f4
  have h4' : ¬ gI (pI ι 11 2 (nI s)) 11 4 = 0 := by rw [gI_p2 _ _ (by omega)]; exact h4
  refine Or.inr ⟨pI ι 11 2 (nI s), pI κ 109 5 (nI s), f, f1, f2, ?_, ?_, by rw [gI_p1, gI_p1], DW_fr ((DW.rf ι).pI _ (by omega)), (MW_fr (MW.rf κ)).at' _ (by omega)⟩
  · unfold dEnd
    rw [if_neg h4]
    unfold dTl
    rw [if_neg h4, f4', Option.bind_some]
    dsimp only
    rw [if_neg h4', gI_p2 _ _ (by omega), f3]
  · unfold mEnd
    rw [m_fine_n h6, Option.bind_some]
    dsimp only
    rw [if_pos rfl]
    unfold mTail
    rw [m_fine_n (by rw [gI_p2 _ _ (by omega)]; exact h6), Option.bind_some]
    dsimp only
    rw [if_pos rfl, gI_p2 _ _ (by omega), f5, f6]
theorem e_line {ι κ : iS} {a T P o : Nat} {F : List (Nat × Nat)} {y1 : Int32} (h : Ln b n C p e ι κ C a T P o F) : TxJ ι κ (dEnd ι) (mEnd y1 κ) := by
  have hb0 := bit_lt 0 o
  obtain ⟨hp, ⟨d1, d2, d3, d4, d5, d6, ⟨ho, o2, o3, o4, o5, o7⟩⟩, hF, hFm, hop⟩ := id h
  have h4 := hp.2.2.1
  have h6 := hp.2.2.2.1
  rcases (show bit 0 o = 0 ∨ bit 0 o = 1 by omega) with hb | hb
  · have hf := d_fail hp 5
    rw [hp.1.2.2.2.2.2.2.1] at hf
    have hpl := Pos_pl hp
    rw [hp.1.2.2.2.2.2.2.1] at hpl
    have hfl := Flt_of (ι := ι) (κ := κ) (f := 5) (s := n) (by omega) hFm.1 hF.1 hpl
    have e1 : dEnd ι = dEnd (fl ι 5 n) := by
      have g4 : ¬ gI (fl ι 5 n) 11 4 = 0 := by rw [hfl.2.2.1]; decide
      unfold dEnd
      rw [if_pos h4, o3, if_pos (show nI (sd o) &&& 16 = 0 from fl_b o ho 0 (by omega) hb), show m_X3_fail 5 ι = some (0, fl ι 5 n) from hf, Option.bind_some]
      dsimp only
      rw [if_neg g4]
    have e2 : mEnd y1 κ = mEnd y1 (wr κ 5 n) := by
      unfold mEnd
      rw [m_fine_y h6, m_fine_n (Flt_6 hfl), Option.bind_some, Option.bind_some]
      dsimp only
      rw [if_neg i10, if_pos rfl, o4, hb, if_pos (show nI 0 = 0 from rfl), m_wrong_y h6, Option.bind_some, hp.2.1.2.1]
      rfl
    rw [e1, e2]
    exact TxJ_tr (e_fault hfl) (DW_fr (DW_fl ι 5 n)) (MW_fr (MW_wr κ 5 n))
  · obtain ⟨ι', g1, g2, g3, g4, g52, g5, g6, -⟩ := d_end h hb
    have hmin : min 8 P ≤ 8 := by omega
    obtain ⟨μ, m1, m2, m3, m4, m5⟩ := m_207 (S := min 8 P) (y1 := y1) hmin (min 8 P) 0 aF (pI (pI κ 109 5 (-1)) 113 3 (nI (min 8 P))) (by omega) (by unfold aF; omega) (gI_p1 _ _ _ _)
    have gm : ∀ i, i ≠ 3 → ¬ (99 ≤ i ∧ i < 99 + min 8 P) → gI μ 113 i = gI κ 113 i := fun i q1 q2 => by rw [m3 _ _ (by omega), gI_p2 _ _ (by omega), gI_p2 _ _ (by omega)]
    have gi : ∀ y i, y ≠ 17 → y ≠ 19 → y ≠ 20 → ¬ (y = 12 ∧ i = 2) → ¬ (y = 11 ∧ i = 2) → gI ι' y i = gI ι y i := g5
    have hok : ∀ q ∈ F, okQ T q := by
      have hb5 := bit_lt 5 o
      rcases (show bit 5 o = 0 ∨ bit 5 o = 1 by omega) with z | z
      · rw [hFm.2.1 z]; intro q hq; cases hq
      · exact (hFm.2.2 z).2.1
    have hP := d2.1
    have hT := d1.1
    refine Or.inl ⟨ι', μ, g1, ?_, ⟨T, P, min 8 P, F, ⟨⟨hT, hP, hmin⟩, ⟨⟨?_, ?_⟩, ⟨?_, ?_⟩, ⟨?_, ?_⟩⟩, fun i hi => ?_, fun q hq t ht => ?_, fun t ht => ?_, fun k hk => ?_, fun k l hk hl hkl => ?_, fun q hq => ?_⟩, ?_, fun i hi => ?_⟩, ?_, ⟨fun y i q => gi y i (by omega) (by omega) (by omega) (by omega) (by omega), fun o k _ => by rw [g6]⟩, ?_⟩
    · unfold mEnd
      rw [m_fine_y h6, Option.bind_some]
      dsimp only
      rw [if_neg i10, o4, hb, if_neg (show ¬ nI 1 = 0 from i10)]
      unfold mTail
      rw [o7, m_fine_y (by rw [gI_p2 _ _ (by omega)]; exact h6), Option.bind_some]
      dsimp only
      have e1 : (1 : Int32) + gI (pI κ 109 5 (-1)) 113 1 = nI P := by
        rw [gI_p2 _ _ (by omega), d2.2.2, show (1 : Int32) = nI 1 from rfl, nI_add, show 1 + (P - 1) = P by omega]
      rw [if_neg i10, e1]
      have e2 : m_X7_less 8 (nI P) (pI κ 109 5 (-1)) = some (nI (min 8 P), pI κ 109 5 (-1)) := by
        unfold m_X7_less
        by_cases z : P ≤ 8
        · rw [if_pos (show nI P ≤ (8 : Int32) from nI_le (a := P) (b := 8) z (by omega)), show min 8 P = P by omega]
        · rw [if_neg (show ¬ nI P ≤ (8 : Int32) from nI_ge (a := 8) (b := P) (by omega) (by omega)), show min 8 P = 8 by omega]; rfl
      rw [e2, Option.bind_some]
      exact m1
    · rw [blk_at _ _ _ _ (by omega), gi _ _ (by omega) (by omega) (by omega) (by omega) (by omega)]; exact d1.2.1
    · rw [gm _ (by omega) (by omega)]; exact d1.2.2
    · rw [blk_at _ _ _ _ (by omega), gi _ _ (by omega) (by omega) (by omega) (by omega) (by omega)]; exact d2.2.1
    · rw [gm _ (by omega) (by omega)]; exact d2.2.2
    · rw [blk_at _ _ _ _ (by omega)]; exact g3
    · rw [m3 _ _ (by omega), gI_p1]
    · rw [blk_at _ _ _ _ (by omega), gi _ _ (by omega) (by omega) (by omega) (by omega) (by omega), gm _ (by omega) (by omega)]; exact d3 i hi
    · rw [blk_at _ _ _ _ (by omega), gi _ _ (by omega) (by omega) (by omega) (by omega) (by omega), gm _ (by omega) (by omega)]; exact d4 q hq (fun _ => hb) t ht
    · rw [blk_at _ _ _ _ (by omega), blk_at _ _ _ _ (by omega), gi _ _ (by omega) (by omega) (by omega) (by omega) (by omega), gi _ _ (by omega) (by omega) (by omega) (by omega) (by omega), gm _ (by omega) (by omega), gm _ (by omega) (by omega)]; exact d5 t ht
    · rw [blk_at _ _ _ _ (by omega), m2 k (by omega) hk]; exact ⟨g4 k hk, k, rfl, by omega⟩
    · rw [m2 k (by omega) hk, m2 l (by omega) hl] at hkl
      exact (nI_eq (by omega) (by omega)).mp hkl
    · rw [blk_at _ _ _ _ (by omega), gi _ _ (by omega) (by omega) (by omega) (by omega) (by omega), gm _ (by omega) (by omega)]
      exact ⟨(d6 q hq).1.trans (d6 q hq).2.symm, 0, (d6 q hq).2, by omega, fun _ => rfl⟩
    · have hb5 := bit_lt 5 o
      rcases (show bit 5 o = 0 ∨ bit 5 o = 1 by omega) with z | z
      · exact Or.inl ⟨by rw [gm _ (by omega) (by omega), o5, z]; rfl, hFm.2.1 z⟩
      · obtain ⟨z1, z2, z3, z4⟩ := hFm.2.2 z
        refine Or.inr ⟨by rw [gm _ (by omega) (by omega), o5, z]; rfl, z1, z2, z3, z4, fun i hi => ?_, ?_⟩
        · rw [gm _ (by omega) (by omega)]; exact hF.2.2.2.1 i hi
        · rw [gm _ (by omega) (by omega)]; exact hF.2.2.2.2 _ (Nat.le_refl _) (by omega)
    · rw [blk_at _ _ _ _ (by omega), blk_at _ _ _ _ (by omega), mt_cg (r := gI κ 113) (fun k h1 h2 => gm k (by omega) (by omega)) (by omega) hT.2 hok, mt_cg (r := gI κ 113) (fun k h1 h2 => gm k (by omega) (by omega)) (by omega) hT.2 hok]
      exact g2 i hi
    · rw [g52, m3 _ _ (by omega), gI_p2 _ _ (by omega), gI_p1]
    · refine ⟨fun y i q w => ?_, m4, m5⟩
      rw [m3 _ _ (by omega), gI_p2 _ _ (by omega), gI_p2 _ _ (by omega)]
end EN
