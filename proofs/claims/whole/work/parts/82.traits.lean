/-! how a text begins: its traits -/
def mTr (κ : iS) : Option iS := Option.bind (m_X7_takes 0 κ) fun r83 => if r83.1 = 0 then Option.bind (m_X7_wrong (1 : Int32) (gI r83.2 109 4) r83.2) fun r95 => Option.bind (m_X7_number (1 : Int32) (5 : Int32) r95) fun r106 => m_X7_must (59 : Int32) (pI r106.2 113 0 r106.1) else Option.bind (m_X7_number (1 : Int32) (5 : Int32) r83.2) fun r106 => m_X7_must (59 : Int32) (pI r106.2 113 0 r106.1)
theorem row0_set : ∀ i, i < 4 → aSt 2 i = row0 (4 + i) ∧ ∃ m, m < 120 ∧ row0 (4 + i) = nI m ∧ setLo i ≤ m ∧ m ≤ setHi i := by
  intro i hi
  rcases (show i = 0 ∨ i = 1 ∨ i = 2 ∨ i = 3 by omega) with rfl | rfl | rfl | rfl
  · exact ⟨rfl, 2, by omega, rfl, by decide, by decide⟩
  · exact ⟨rfl, 30, by omega, rfl, by decide, by decide⟩
  · exact ⟨rfl, 5, by omega, rfl, by decide, by decide⟩
  · exact ⟨rfl, 50, by omega, rfl, by decide, by decide⟩
section TR
variable {b : Nat → Nat} {n C : Nat} {p e : Nat → Nat}
def TrS (ι κ : iS) : Prop := Clr ι 12 ∧ gI ι 21 2 = 0 ∧ gI ι 11 6 = 0 ∧ (∀ i, i < 883 → gI κ 113 i = row0 i) ∧ gI κ 109 7 = -1 ∧ gI κ 109 13 = 0 ∧ gI κ 109 14 = 0 ∧ gI κ 109 15 = 0
theorem tr_ln {ι κ ι' κ' : iS} {k a T : Nat} (hT : 1 ≤ T ∧ T ≤ 5) (h : TrS ι κ) (hP : Pos b n C p e ι' κ' k a) (h1 : gI ι' 12 0 = nI T) (h2 : gI κ' 113 0 = nI T) (hi : ∀ y i, ¬ (y = 12 ∧ i = 0) → ¬ (y = 11 ∧ i = 5) → gI ι' y i = gI ι y i) (hm : ∀ y i, ¬ (y = 113 ∧ i = 0) → ¬ (y = 109 ∧ i = 4) → gI κ' y i = gI κ y i) : Ln b n C p e ι' κ' k a T 1 0 [] := by
  obtain ⟨⟨c0, c1, c2, c3, c4, c5⟩, s1, s3, hr, m7, m13, m14, m15⟩ := h
  have r : ∀ i, 0 < i → i < 883 → gI κ' 113 i = row0 i := fun i q1 q2 => (hm _ _ (by omega) (by omega)).trans (hr i q2)
  have g : ∀ y i, 13 ≤ y → gI ι' y i = gI ι y i := fun y i q => hi _ _ (by omega) (by omega)
  refine ⟨hP, ⟨⟨hT, h1, h2⟩, ⟨⟨by omega, by omega⟩, ?_, ?_⟩, fun i hi' => ?_, fun q hq hq0 t ht => ?_, fun t ht => ?_, fun q hq => ?_, by omega, ?_, ?_, ?_, ?_, ?_⟩, ⟨?_, fun j hj => absurd hj (Nat.not_lt_zero j), ?_, fun j hj => absurd hj (Nat.not_lt_zero j), fun i _ q => ?_⟩, ⟨by decide, fun _ => rfl, fun q => absurd q (by decide)⟩, ?_⟩
  · rw [hi _ _ (by omega) (by omega)]; exact c1
  · rw [r _ (by omega) (by omega)]; rfl
  · obtain ⟨e1, m, -, e2, e3, e4⟩ := row0_set i hi'
    rw [g _ _ (by omega), r _ (by omega) (by omega)]
    exact ⟨(c4 i hi').trans e1, m, e2, e3, e4⟩
  · have : q = 0 := by omega
    exact absurd (hq0 this) (by decide)
  · rw [g _ _ (by omega), g _ _ (by omega), r _ (by omega) (by omega), r _ (by omega) (by omega)]
    have e1 : row0 (89 + t) = -1 := by unfold row0; rw [if_neg (by omega), if_neg (by omega), if_neg (by omega), if_neg (by omega), if_pos (by omega)]
    have e2 : row0 (94 + t) = 0 := by unfold row0; rw [if_neg (by omega), if_neg (by omega), if_neg (by omega), if_neg (by omega), if_neg (by omega)]
    rw [e1, e2]
    exact ⟨(c3 t ht).1, (c3 t ht).2, Or.inl ⟨rfl, rfl⟩⟩
  · rw [g _ _ (by omega), r _ (by omega) (by omega)]
    refine ⟨c5 q hq, ?_⟩
    unfold row0; rw [if_neg (by omega), if_neg (by omega), if_neg (by omega), if_neg (by omega), if_neg (by omega)]
  · rw [hm _ _ (by omega) (by omega)]; exact m15
  · rw [hi _ _ (by omega) (by omega)]; exact s3
  · rw [r _ (by omega) (by omega)]; rfl
  · rw [r _ (by omega) (by omega)]; rfl
  · rw [hm _ _ (by omega) (by omega)]; exact m7
  · rw [hi _ _ (by omega) (by omega)]; exact s1
  · rw [hm _ _ (by omega) (by omega)]; exact m13
  · have q2 : i < 760 := q
    rw [r _ (by omega) (by omega)]
    unfold row0; rw [if_neg (by omega), if_neg (by omega), if_neg (by omega), if_neg (by omega), if_neg (by omega)]
  · rw [hm _ _ (by omega) (by omega)]; exact m14
theorem j_traits {ι κ : iS} {k a : Nat} (hp : Pos b n C p e ι κ k a) (h : TrS ι κ) :
    (∃ ι' κ' k' a' T, m_X3_readTraits ι = some (1, ι') ∧ mTr κ = some κ' ∧ Ln b n C p e ι' κ' k' a' T 1 0 [] ∧ DW ι ι' ∧ MW κ κ') ∨ (∃ ι' κ' f s, m_X3_readTraits ι = some (0, ι') ∧ mTr κ = some κ' ∧ Flt ι' κ' f s ∧ DW ι ι' ∧ MW κ κ') := by
  obtain ⟨hT, hM, h4, h6, h5, hk, hat, hc⟩ := id hp
  have h21 : gI ι 21 2 = nI 0 := h.2.1
  have ht := m_takes (x := 0) (by omega) hM h6 hat hc
  have hw := d_isWord (x := 0) (by omega) hT hk
  unfold m_X3_readTraits mTr
  rw [h5]
  by_cases w : Wd b n 0 (p k)
  · have hkC : k < C := (Pos_lt hp).mpr (by have := w.1; have := wd_pos 0 (by omega); omega)
    rw [hw.1 ⟨hkC, w⟩, ht.1 w, ← (Wd_end (by omega) hT hkC w).1, Option.bind_some, Option.bind_some]
    dsimp only
    rw [if_neg i10, if_neg i10, h5, nI_1]
    have hP := Pos_on hp hkC
    rcases j_num (lo := 1) (hi := 5) hP (by omega) (by omega) with ⟨v, hv1, hv2, hkC2, e1, e2⟩ | ⟨f, x, y, hf, e1, e2⟩
    · have e1' : m_X3_readNumber 1 5 (pI ι 11 5 (nI (k + 1))) = _ := e1
      have e2' : m_X7_number 1 5 (pI κ 109 4 (nI (e k))) = _ := e2
      rw [e1', e2', Option.bind_some, Option.bind_some]
      dsimp only
      rw [if_neg (nI_nm1 (by omega))]
      have hP2 := Pos_on hP hkC2
      have hP3 : Pos b n C p e (pI (pI (pI ι 11 5 (nI (k + 1))) 11 5 (nI (k + 1 + 1))) 12 0 (nI v)) (pI (pI (pI κ 109 4 (nI (e k))) 109 4 (nI (e (k + 1)))) 113 0 (nI v)) (k + 1 + 1) (e (k + 1)) := Pos_cg hP2 ((DW.rf _).pI _ (by omega)) ((MW.rf _).row _) (gI_p2 _ _ (by omega)) (gI_p2 _ _ (by omega)) (gI_p2 _ _ (by omega)) (gI_p2 _ _ (by omega))
      rcases j_sign hP3 sgn_42.2.2.2.2.2 with ⟨s1, s2, s3⟩ | ⟨s2, s3⟩
      · have s2' : m_X3_readSign 59 (pI (pI (pI ι 11 5 (nI (k + 1))) 11 5 (nI (k + 1 + 1))) 12 0 (nI v)) = _ := s2
        rw [s2', Option.bind_some]
        dsimp only
        rw [if_pos (Or.inr rfl)]
        refine Or.inl ⟨_, _, k + 1 + 1 + 1, e (k + 1 + 1), v, rfl, s3, tr_ln ⟨hv1, hv2⟩ h (Pos_on hP3 s1) ?_ ?_ (fun y i q1 q2 => ?_) (fun y i q1 q2 => ?_), ?_, ?_⟩
        · rw [gI_p2 _ _ (by omega), gI_p1]
        · rw [gI_p2 _ _ (by omega), gI_p1]
        · rw [gI_p2 _ _ q2, gI_p2 _ _ q1, gI_p2 _ _ q2, gI_p2 _ _ q2]
        · rw [gI_p2 _ _ q2, gI_p2 _ _ q1, gI_p2 _ _ q2, gI_p2 _ _ q2]
        · exact ((((DW.rf ι).pI _ (by omega)).pI _ (by omega)).pI _ (by omega)).pI _ (by omega)
        · exact ((((MW.rf κ).at' (k := 4) _ (by omega)).at' (k := 4) _ (by omega)).row _).at' (k := 4) _ (by omega)
      · have s2' : m_X3_readSign 59 (pI (pI (pI ι 11 5 (nI (k + 1))) 11 5 (nI (k + 1 + 1))) 12 0 (nI v)) = _ := s2
        rw [s2', Option.bind_some]
        dsimp only
        rw [if_pos (Or.inl rfl)]
        refine Or.inr ⟨_, _, 1, p (k + 1 + 1), rfl, s3, Flt_of (c := 0) (by omega) (by omega) ?_ (Pos_pl hP3), ?_, ?_⟩
        · rw [gI_p2 _ _ (by omega), gI_p2 _ _ (by omega), gI_p2 _ _ (by omega)]; exact h21
        · exact ((((DW.rf ι).pI _ (by omega)).pI _ (by omega)).pI _ (by omega)).tr (DW_fl _ _ _)
        · exact ((((MW.rf κ).at' (k := 4) _ (by omega)).at' (k := 4) _ (by omega)).row _).tr (((MW.rf _).at' (k := 4) _ (by omega)).tr (MW_wr _ 1 _))
    · have e1' : m_X3_readNumber 1 5 (pI ι 11 5 (nI (k + 1))) = _ := e1
      have e2' : m_X7_number 1 5 (pI κ 109 4 (nI (e k))) = _ := e2
      rw [e1', e2', Option.bind_some, Option.bind_some]
      dsimp only
      rw [if_pos rfl]
      have hfl := Flt_of (ι := pI ι 11 5 (nI (k + 1))) (κ := pI (pI κ 109 4 (nI (e k))) 109 4 (nI y)) (f := f) (s := p (k + 1)) (c := 0) (by omega) (by omega) (by rw [gI_p2 _ _ (by omega)]; exact h21) (Pos_pl hP)
      obtain ⟨f1, f2, f3, f4, f5, f6, f7⟩ := id hfl
      have hfl2 : Flt (fl (pI ι 11 5 (nI (k + 1))) f (p (k + 1))) (pI (wr (pI (pI κ 109 4 (nI (e k))) 109 4 (nI y)) f (p (k + 1))) 113 0 x) f (p (k + 1)) := ⟨f1, f2, f3, f4, by rw [gI_p2 _ _ (by omega)]; exact f5, by rw [gI_p2 _ _ (by omega)]; exact f6, f7⟩
      refine Or.inr ⟨_, _, f, p (k + 1), rfl, m_must_d (Flt_6 hfl2) 59, hfl2, ((DW.rf ι).pI _ (by omega)).tr (DW_fl _ _ _), ?_⟩
      exact ((((MW.rf κ).at' (k := 4) _ (by omega)).at' (k := 4) _ (by omega)).tr (MW_wr _ f _)).row _
  · rw [hw.2 (fun q => w q.2), ht.2 w, Option.bind_some, Option.bind_some]
    dsimp only
    rw [if_pos rfl, if_pos rfl, show m_X3_fail 1 ι = some (0, fl ι 1 (p k)) from d_fail hp 1, Option.bind_some]
    dsimp only
    rw [if_pos (Or.inl rfl), gI_p1, m_wrong_y (by rw [gI_p2 _ _ (by omega)]; exact h6), Option.bind_some]
    have hfl := Flt_of (ι := ι) (κ := pI κ 109 4 (nI (p k))) (f := 1) (s := p k) (c := 0) (by omega) (by omega) h21 (Pos_pl hp)
    obtain ⟨f1, f2, f3, f4, f5, f6, f7⟩ := id hfl
    have hfl2 : Flt (fl ι 1 (p k)) (pI (wr (pI κ 109 4 (nI (p k))) 1 (p k)) 113 0 0) 1 (p k) := ⟨f1, f2, f3, f4, by rw [gI_p2 _ _ (by omega)]; exact f5, by rw [gI_p2 _ _ (by omega)]; exact f6, f7⟩
    have en : m_X7_number 1 5 (pI (pI (pI κ 109 4 (nI (p k))) 109 6 1) 109 7 (nI (p k))) = some (0, wr (pI κ 109 4 (nI (p k))) 1 (p k)) := m_num_d (κ := wr (pI κ 109 4 (nI (p k))) 1 (p k)) (Flt_6 hfl) 1 5
    rw [en, Option.bind_some]
    exact Or.inr ⟨_, _, 1, p k, rfl, m_must_d (Flt_6 hfl2) 59, hfl2, DW_fl _ _ _, (((MW.rf κ).at' (k := 4) _ (by omega)).tr (MW_wr _ 1 _)).row _⟩
end TR
