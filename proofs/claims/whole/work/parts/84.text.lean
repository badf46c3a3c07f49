/-! text, on both sides -/
def mText (x1 : Int32) (κ : iS) : Option (Int32 × iS) := Option.bind (m_X7_begins 113 (pI (pI (pI (pI (pI (pI (pI κ 109 3 x1) 109 4 (0 : Int32)) 109 6 (0 : Int32)) 109 7 (-1 : Int32)) 109 13 (0 : Int32)) 109 14 (0 : Int32)) 109 15 (0 : Int32))) fun r77 => Option.bind (mTr r77) fun r113 => l_X7_text_116 aF x1 r113
theorem mTr_bind (x1 : Int32) (κ : iS) : (Option.bind (m_X7_takes 0 κ) fun r83 => if r83.1 = 0 then Option.bind (m_X7_wrong (1 : Int32) (gI r83.2 109 4) r83.2) fun r95 => Option.bind (m_X7_number (1 : Int32) (5 : Int32) r95) fun r106 => Option.bind (m_X7_must (59 : Int32) (pI r106.2 113 0 r106.1)) fun r113 => l_X7_text_116 aF x1 r113 else Option.bind (m_X7_number (1 : Int32) (5 : Int32) r83.2) fun r106 => Option.bind (m_X7_must (59 : Int32) (pI r106.2 113 0 r106.1)) fun r113 => l_X7_text_116 aF x1 r113) = Option.bind (mTr κ) fun r113 => l_X7_text_116 aF x1 r113 := by
  unfold mTr
  cases m_X7_takes 0 κ with
  | none => rfl
  | some r83 =>
    rw [Option.bind_some, Option.bind_some]
    by_cases z : r83.1 = 0
    · rw [if_pos z, if_pos z]
      cases m_X7_wrong 1 (gI r83.2 109 4) r83.2 with
      | none => rfl
      | some r95 =>
        rw [Option.bind_some, Option.bind_some]
        cases m_X7_number 1 5 r95 with
        | none => rfl
        | some r106 => rw [Option.bind_some, Option.bind_some]
    · rw [if_neg z, if_neg z]
      cases m_X7_number 1 5 r83.2 with
      | none => rfl
      | some r106 => rw [Option.bind_some, Option.bind_some]
theorem j_text {ι κ : iS} {b : Nat → Nat} {n : Nat} (hn : n ≤ 500) (hb : ∀ i, i < n → gI ι 1 i = db (b i) ∧ b i < 256) (hκ : ∀ i, i < n → gI κ 111 i = nI (b i)) : TxJ ι κ (m_X3_read (nI n) ι) (mText (nI n) κ) := by
  obtain ⟨ι1, C, p, e, s1, hTK, s3, s4, s5⟩ := d_scan hn hb
  obtain ⟨ι2, c1, c2, c3, c4, c5⟩ := d_clear (o := 12) ι1
  obtain ⟨κ0, hκ0⟩ : ∃ κ0, κ0 = pI (pI (pI (pI (pI (pI (pI κ 109 3 (nI n)) 109 4 (0 : Int32)) 109 6 (0 : Int32)) 109 7 (-1 : Int32)) 109 13 (0 : Int32)) 109 14 (0 : Int32)) 109 15 (0 : Int32) := ⟨_, rfl⟩
  obtain ⟨κ1, b1, b2, b3, b4, b5⟩ := m_begins (x := 113) κ0
  obtain ⟨ι3, hι3⟩ : ∃ ι3, ι3 = pI (pI (pI (pI ι2 21 2 0) 11 4 (0 : Int32)) 11 5 (0 : Int32)) 11 6 (0 : Int32) := ⟨_, rfl⟩
  have hD : m_X3_read (nI n) ι = Option.bind (m_X3_readTraits ι3) fun r44 => l_X3_read_46 aF (nI n) r44.1 (0 : Int32) r44.2 := by
    unfold m_X3_read m_X1_clear
    rw [s1, Option.bind_some, c1, Option.bind_some, Option.bind_some, hι3]
  have hM : mText (nI n) κ = Option.bind (mTr κ1) fun r113 => l_X7_text_116 aF (nI n) r113 := by
    unfold mText
    rw [← hκ0, b1, Option.bind_some]
  have g3 : ∀ y i, ¬ (11 ≤ y ∧ y ≤ 21) → gI ι3 y i = gI ι1 y i := fun y i q => by rw [hι3, gI_p2 _ _ (by omega), gI_p2 _ _ (by omega), gI_p2 _ _ (by omega), gI_p2 _ _ (by omega), c3 y i (by omega) (by omega) (by omega) (by omega) (by omega)]
  have hDW : DW ι1 ι3 := ⟨fun o i q => g3 o i (by omega), by rw [hι3]; exact c4, by rw [hι3]; exact c5⟩
  have gk : ∀ y i, y ≠ 113 → ¬ (y = 109 ∧ (i = 3 ∨ i = 4 ∨ i = 6 ∨ i = 7 ∨ i = 13 ∨ i = 14 ∨ i = 15)) → gI κ1 y i = gI κ y i := fun y i q1 q2 => by rw [b3 y i q1, hκ0, gI_p2 _ _ (by omega), gI_p2 _ _ (by omega), gI_p2 _ _ (by omega), gI_p2 _ _ (by omega), gI_p2 _ _ (by omega), gI_p2 _ _ (by omega), gI_p2 _ _ (by omega)]
  have hDF : DFr ι ι3 := ⟨fun o i q => by rw [g3 o i (by omega), s3 o i (by omega)], fun o k q => by rw [hDW.2.2, s5 o k q]⟩
  have hMF : MFr κ κ1 := ⟨fun o i q w => gk o i q (by omega), by rw [b4, hκ0]; rfl, by rw [b5, hκ0]; rfl⟩
  have hMB : MB κ1 b n := by
    refine ⟨hn, ?_, fun i hi => ⟨?_, (hb i hi).2⟩⟩
    · rw [b3 _ _ (by omega), hκ0, gI_p2 _ _ (by omega), gI_p2 _ _ (by omega), gI_p2 _ _ (by omega), gI_p2 _ _ (by omega), gI_p2 _ _ (by omega), gI_p2 _ _ (by omega), gI_p1]
    · rw [gk _ _ (by omega) (by omega)]; exact hκ i hi
  have hC : C ≤ 500 := hTK.2.2.1
  have hp0 : p 0 ≤ n ∧ (p 0 = n ∨ b (p 0) ≠ 32) := by
    by_cases z : 0 = C
    · have : p 0 = n := by rw [z]; exact hTK.2.2.2.2.2.2.1
      exact ⟨by omega, Or.inl this⟩
    · have := TK_lt hTK (k := 0) (by omega)
      exact ⟨by omega, Or.inr this.2.1⟩
  have hP : Pos b n C p e ι3 κ1 0 0 := by
    refine ⟨TK_cg hTK hDW, hMB, ?_, ?_, ?_, by omega, ?_, ⟨by omega, hp0.1, fun i h1 h2 => hTK.2.2.2.2.2.2.2.1 i h1 h2, hp0.2⟩⟩
    · rw [hι3, gI_p2 _ _ (by omega), gI_p2 _ _ (by omega), gI_p1]
    · rw [b3 _ _ (by omega), hκ0, gI_p2 _ _ (by omega), gI_p2 _ _ (by omega), gI_p2 _ _ (by omega), gI_p2 _ _ (by omega), gI_p1]
    · rw [hι3, gI_p2 _ _ (by omega), gI_p1]; rfl
    · rw [b3 _ _ (by omega), hκ0, gI_p2 _ _ (by omega), gI_p2 _ _ (by omega), gI_p2 _ _ (by omega), gI_p2 _ _ (by omega), gI_p2 _ _ (by omega), gI_p1]; rfl
  have hTr : TrS ι3 κ1 := by
    obtain ⟨a0, a1, a2, a3, a4, a5⟩ := c2
    have g2 : ∀ y i, y ≠ 11 → y ≠ 21 → gI ι3 y i = gI ι2 y i := fun y i q1 q2 => by rw [hι3, gI_p2 _ _ (by omega), gI_p2 _ _ (by omega), gI_p2 _ _ (by omega), gI_p2 _ _ (by omega)]
    refine ⟨⟨?_, ?_, ?_, fun i hi => ?_, fun i hi => ?_, fun i hi => ?_⟩, ?_, ?_, b2, ?_, ?_, ?_, ?_⟩
    · rw [g2 _ _ (by omega) (by omega)]; exact a0
    · rw [g2 _ _ (by omega) (by omega)]; exact a1
    · rw [g2 _ _ (by omega) (by omega)]; exact a2
    · rw [g2 _ _ (by omega) (by omega), g2 _ _ (by omega) (by omega)]; exact a3 i hi
    · rw [g2 _ _ (by omega) (by omega)]; exact a4 i hi
    · rw [g2 _ _ (by omega) (by omega)]; exact a5 i hi
    · rw [hι3, gI_p2 _ _ (by omega), gI_p2 _ _ (by omega), gI_p2 _ _ (by omega), gI_p1]
    · rw [hι3, gI_p1]
    · rw [b3 _ _ (by omega), hκ0, gI_p2 _ _ (by omega), gI_p2 _ _ (by omega), gI_p2 _ _ (by omega), gI_p1]
    · rw [b3 _ _ (by omega), hκ0, gI_p2 _ _ (by omega), gI_p2 _ _ (by omega), gI_p1]
    · rw [b3 _ _ (by omega), hκ0, gI_p2 _ _ (by omega), gI_p1]
    · rw [b3 _ _ (by omega), hκ0, gI_p1]
  rw [hD, hM]
  rcases j_traits hP hTr with ⟨ι4, κ4, k4, a4, T, t1, t2, t3, t4, t5⟩ | ⟨ι4, κ4, f, s, t1, t2, t3, t4, t5⟩
  · rw [t1, t2, Option.bind_some, Option.bind_some]
    dsimp only
    rcases j_read (y1 := nI n) (y2 := nI n) (C - k4) k4 a4 0 aF aF ι4 κ4 1 0 [] (Nat.le_refl _) t3 (by omega) (by unfold aF; omega) (by unfold aF; omega) (by unfold aF; omega) with ⟨ι5, κ5, P, o, F, r1, r2, r3, r4, r5⟩ | ⟨ι5, κ5, f, s, r1, r2, r3, r4, r5⟩
    · rw [show l_X3_read_46 aF (nI n) 1 0 ι4 = dEnd ι5 from r1, r2]
      exact TxJ_tr (e_line r3) (hDF.tr ((DW_fr t4).tr (DW_fr r4))) (hMF.tr ((MW_fr t5).tr (MW_fr r5)))
    · rw [show l_X3_read_46 aF (nI n) 1 0 ι4 = dEnd ι5 from r1, r2]
      exact TxJ_tr (e_fault r3) (hDF.tr ((DW_fr t4).tr (DW_fr r4))) (hMF.tr ((MW_fr t5).tr (MW_fr r5)))
  · rw [t1, t2, Option.bind_some, Option.bind_some]
    dsimp only
    rw [d_rstop (by unfold aF; omega), m_rstop (by unfold aF; omega) (Flt_6 t3)]
    exact TxJ_tr (e_fault t3) (hDF.tr (DW_fr t4)) (hMF.tr (MW_fr t5))
