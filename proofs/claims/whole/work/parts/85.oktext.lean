theorem m_text_in {κ : iS} {n N : Nat} (h0 : gI κ 109 2 = nI N) (hN : N ≤ 500) (hn : n ≤ N) : m_X7_text (nI n) κ = mText (nI n) (pI (pI κ 109 0 0) 109 2 0) := by
  unfold m_X7_text
  rw [gI_p2 _ _ (by omega), h0, m_in_y (i_pos (by omega)) (nI_nlt hn (by omega)), Option.bind_some]
  dsimp only
  rw [if_neg i10, m_bad_0 (gI_p1 _ _ _ _), Option.bind_some]
  dsimp only
  rw [if_pos rfl]
  unfold mText
  congr 1
  funext r77
  exact mTr_bind (nI n) r77
theorem ok_text {ι : iS} (h : Inv ι) (x : Int32) : Ok32 (w_text x ι) (m_X7_text x) := by
  obtain ⟨hL, ⟨N, hN, t1, t2, t3⟩, ⟨hp, a, ha, ac1, ac2, hk⟩, hf, hrf⟩ := id h
  rcases pk_ix x (n := N + 1) (by omega) with hx | hx | ⟨n, hn, rfl⟩
  · refine ok_refuse h (e := 1) (c := 1) (v := 0) (by omega) i10 ?_ ?_
    · unfold w_text m_X6_text
      rw [d_nr_n (Or.inl hx)]
      rfl
    · unfold m_X7_text
      rw [m_in_n (Or.inl hx), Option.bind_some]
      dsimp only
      rw [if_pos rfl, show m_X7_bad 1 1 1 = m_X7_bad 1 1 (nI 1) from rfl, m_bad_1 (e := 1) (hc := i10) (he := by omega)]
      · rfl
      · rfl
  · have hx2 : nI N < x := by
      rw [Int32.le_iff_toInt_le, nI_toInt (by omega)] at hx
      rw [Int32.lt_iff_toInt_lt, nI_toInt (by omega)]
      omega
    refine ok_refuse h (e := 1) (c := 1) (v := 0) (by omega) i10 ?_ ?_
    · unfold w_text m_X6_text
      rw [t1, d_nr_n (Or.inr hx2)]
      rfl
    · unfold m_X7_text
      rw [gI_p2 _ _ (by omega), gI_p2 _ _ (by omega), t2, m_in_n (Or.inr hx2), Option.bind_some]
      dsimp only
      rw [if_pos rfl, show m_X7_bad 1 1 1 = m_X7_bad 1 1 (nI 1) from rfl, m_bad_1 (e := 1) (hc := i10) (he := by omega)]
      · rfl
      · rfl
  · obtain ⟨b, hb⟩ := Classical.axiomOfChoice (r := fun (k c : Nat) => k < N → c < 256 ∧ gI ι 1 k = db c ∧ gI ι 111 k = nI c) (fun k => by
      by_cases q : k < N
      · obtain ⟨c, c1, c2, c3⟩ := byteR_db (t3 k q)
        exact ⟨c, fun _ => ⟨c1, c2, c3⟩⟩
      · exact ⟨0, fun w => absurd w q⟩)
    have hJ : ∀ κ : iS, (∀ i, gI κ 111 i = gI ι 111 i) → TxJ ι κ (m_X3_read (nI n) ι) (mText (nI n) κ) := fun κ q => j_text (b := b) (by omega) (fun i hi => ⟨(hb i (by omega)).2.1, (hb i (by omega)).1⟩) (fun i hi => by rw [q]; exact (hb i (by omega)).2.2)
    have hR : m_X6_needRange (nI n) 0 (gI ι 0 1) ι = some (.inr ι) := by rw [t1]; exact d_nr_y (i_pos (by omega)) (nI_nlt (by omega) (by omega))
    rcases hJ ι (fun _ => rfl) with ⟨ι1, κ1, j1, -, -, -, jD, -⟩ | ⟨ι1, κ1, f, jf1, jf2, j1, -, -, jD, -⟩
    · obtain ⟨ι2, hι2⟩ : ∃ ι2, ι2 = pI (pI ι1 0 1 0) 0 6 (gI ι1 11 2) := ⟨_, rfl⟩
      have g2 : ∀ o i, (o < 11 ∨ 27 < o) → ¬ (o = 0 ∧ (i = 1 ∨ i = 6)) → gI ι2 o i = gI ι o i := fun o i q1 q2 => by rw [hι2, gI_p2 _ _ (by omega), gI_p2 _ _ (by omega), jD.1 o i q1]
      have p2 : ∀ k, gP ι2 29 k = gP ι 29 k := fun k => by rw [hι2]; exact jD.2 29 k (by omega)
      have hPD : PD ι2 a (fun k => gI ι (115 + k)) := by
        refine ⟨pastR_sm p2 hp, ha, (g2 _ _ (by omega) (by omega)).trans ac1, fun k hk2 o ho => ?_⟩
        rw [p2] at ho
        obtain ⟨i, hi, ei⟩ := pastR_le hp (by omega) ho
        rw [blk_eq (ι := ι) (fun j z hj => g2 _ _ (by omega) (by omega))]
        exact hk k hk2 o ho
      have hL2 : LR (blk ι2 2) (gI ι 112) := by
        rw [blk_eq (ι := ι) (fun j z hj => g2 _ _ (by omega) (by omega))]
        exact hL
      obtain ⟨ι3, k1, k2, k3, k4, k5⟩ := d_keep hPD hL2
      obtain ⟨ι4, q1, q2, q3, q4, q5⟩ := d_copy (ι := ι3) (o := 2) (x := 12) (by omega)
      obtain ⟨ι5, hι5⟩ : ∃ ι5, ι5 = pJ ι4 125 0 (gI ι4 2 1).toInt64 := ⟨_, rfl⟩
      have hW : w_text (nI n) ι = some (0, ι5) := by
        unfold w_text m_X6_text
        rw [hR, Option.bind_some]
        dsimp only
        rw [j1, Option.bind_some]
        dsimp only
        rw [if_pos rfl, gI_p2 _ _ (by omega), ← hι2, k1, Option.bind_some, q1, Option.bind_some, Option.bind_some, hι5]
      have g5 : ∀ o i, (o = 1 ∨ (28 ≤ o ∧ o < 37) ∨ 108 < o) → gI ι5 o i = gI ι o i := fun o i q => by rw [hι5, gI_pJ, q3 o i (by omega), k3 o i (by omega) (by omega), g2 o i (by omega) (by omega)]
      have h52 : gI ι5 109 2 = nI N := (g5 _ _ (by omega)).trans t2
      obtain ⟨κ0, hκ0⟩ : ∃ κ0, κ0 = pI (pI ι5 109 0 0) 109 2 0 := ⟨_, rfl⟩
      have g0 : ∀ o i, ¬ (o = 109 ∧ (i = 0 ∨ i = 2)) → gI κ0 o i = gI ι5 o i := fun o i q => by rw [hκ0, gI_p2 _ _ (by omega), gI_p2 _ _ (by omega)]
      have hT := m_text_in h52 hN (show n ≤ N by omega)
      rw [← hκ0] at hT
      rcases hJ κ0 (fun i => by rw [g0 _ _ (by omega), g5 _ _ (by omega)]) with ⟨ι1', κ', e1, e2, e3, e4, -, e5⟩ | ⟨ι1', κ', f, ef1, ef2, e1, -⟩
      · rw [j1] at e1
        obtain rfl : ι1 = ι1' := (Prod.ext_iff.mp (Option.some.inj e1)).2
        have gk : ∀ o i, o ≠ 113 → o ≠ 109 → gI κ' o i = gI ι5 o i := fun o i w1 w2 => by rw [e5.1 o i w1 (by omega), g0 o i (by omega)]
        obtain ⟨μ, m1, m2, m3, m4, m5, m6⟩ := m_rem (ι := κ') ha (by rw [e5.1 _ _ (by omega) (by omega), g0 _ _ (by omega), g5 _ _ (by omega)]; exact ac2)
        obtain ⟨ν, n1, n2, n3, n4, n5⟩ := m_copy (x1 := 113) (x2 := 112) (by omega) μ
        have hν : ∀ o i, o ≠ 112 → o ≠ 113 → o ≠ 109 → (o < 115 ∨ 122 < o) → gI ν o i = gI ι5 o i := fun o i w1 w2 w3 w4 => by rw [n3 o i w1, m4 o i w4 (by omega), gk o i w2 w3]
        have h9 : ∀ i, i ≠ 12 → gI ν 109 i = gI κ' 109 i := fun i w => by rw [n3 _ _ (by omega), m4 _ _ (by omega) (by omega)]
        have hpers : 1 + gI ν 112 1 = gI ι4 2 1 := by
          obtain ⟨T, P, S, F, ⟨⟨-, hP, -⟩, ⟨-, ⟨z1, z2⟩, -⟩, -⟩, -⟩ := e3
          rw [n2 1 (by omega), m4 _ _ (by omega) (by omega), z2, show gI ι4 2 1 = gI ι3 12 1 from q2 0 1 (by decide), k3 _ _ (by omega) (by omega), hι2, gI_p2 _ _ (by omega), gI_p2 _ _ (by omega), show gI ι1 12 1 = nI P from z1, show (1 : Int32) = nI 1 from rfl, nI_add, show 1 + (P - 1) = P by omega]
        refine ⟨0, ι5, gI ι4 2 1, ν, hW, ?_, ?_, fun _ => ?_, ?_⟩
        · rw [hT, e2]
          unfold mRest m_X7_persons
          rw [m1, Option.bind_some, n1, Option.bind_some, Option.bind_some, hpers]
        · rw [h9 _ (by omega), e5.1 _ _ (by omega) (by omega), hκ0, gI_p2 _ _ (by omega), gI_p1]
        · rw [n4, m5, e5.2.1, hκ0, hι5, gJ_pI, gJ_pI, gJ_pJ, if_pos ⟨rfl, rfl⟩]
        · refine ⟨LR_cg (B := blk ι1 12) (r := gI κ' 113) (fun j k hjk => ?_) (fun k hk2 => by rw [n2 k hk2, m4 _ _ (by omega) (by omega)]) e3, ⟨0, by omega, ?_, ?_, fun k hk2 => by omega⟩, past_act k2 (fun k => ?_) (fun o k w1 w2 => ?_) ?_ ?_ (fun k hk2 i hi => ?_), ?_, fun k hk2 => ?_⟩
          · have hj := bd_le hjk
            rw [blk_at _ _ _ _ hj, blk_at _ _ _ _ hj, hν _ _ (by omega) (by omega) (by omega) (by omega), hι5, gI_pJ, q2 j k hjk, k3 _ _ (by omega) (by omega), hι2, gI_p2 _ _ (by omega), gI_p2 _ _ (by omega)]
          · rw [hν _ _ (by omega) (by omega) (by omega) (by omega), hι5, gI_pJ, q3 _ _ (by omega), k3 _ _ (by omega) (by omega), hι2, gI_p2 _ _ (by omega), gI_p1]; rfl
          · rw [h9 _ (by omega), e5.1 _ _ (by omega) (by omega), hκ0, gI_p1]; rfl
          · rw [n5, m6, e5.2.2, hκ0, hι5]
            show gP ι4 29 k = _
            rw [q5]
          · rw [hν _ _ (by omega) (by omega) (by omega) (by omega), hι5, gI_pJ, q3 _ _ (by omega)]
          · rw [hν _ _ (by omega) (by omega) (by omega) (by omega), hι5, gI_pJ, q3 _ _ (by omega)]
          · rw [n3 _ _ (by omega)]; exact m2
          · have ef : (fun k => gI κ' (115 + k)) = fun k => gI ι (115 + k) := funext fun k => funext fun i => by rw [gk _ _ (by omega) (by omega), g5 _ _ (by omega)]
            have eg : gI κ' 112 = gI ι 112 := funext fun i => by rw [gk _ _ (by omega) (by omega), g5 _ _ (by omega)]
            rw [n3 _ _ (by omega), m3 k hk2 i hi, ef, eg]
          · rw [hν _ _ (by omega) (by omega) (by omega) (by omega), hι5, gI_pJ, q3 _ _ (by omega), k3 _ _ (by omega) (by omega), hι2, gI_p1, h9 _ (by omega)]; exact e4
          · rw [hν _ _ (by omega) (by omega) (by omega) (by omega), hν _ _ (by omega) (by omega) (by omega) (by omega), g5 _ _ (by omega), g5 _ _ (by omega)]; exact hrf k hk2
      · rw [j1] at e1
        exact absurd (Prod.ext_iff.mp (Option.some.inj e1)).1.symm (nI_ne0 (by omega) (by omega))
    · obtain ⟨ι5, hι5⟩ : ∃ ι5, ι5 = pJ (pI (pI ι1 0 1 0) 0 6 (gI ι1 11 2)) 125 0 (nI f - 10).toInt64 := ⟨_, rfl⟩
      have hW : w_text (nI n) ι = some (0, ι5) := by
        unfold w_text m_X6_text
        rw [hR, Option.bind_some]
        dsimp only
        rw [j1, Option.bind_some]
        dsimp only
        rw [if_neg (nI_ne0 (by omega) (by omega)), gI_p2 _ _ (by omega), Option.bind_some, hι5]
      have g5 : ∀ o i, (o < 11 ∨ 27 < o) → ¬ (o = 0 ∧ (i = 1 ∨ i = 6)) → gI ι5 o i = gI ι o i := fun o i w1 w2 => by rw [hι5, gI_pJ, gI_p2 _ _ (by omega), gI_p2 _ _ (by omega), jD.1 o i w1]
      have h52 : gI ι5 109 2 = nI N := (g5 _ _ (by omega) (by omega)).trans t2
      obtain ⟨κ0, hκ0⟩ : ∃ κ0, κ0 = pI (pI ι5 109 0 0) 109 2 0 := ⟨_, rfl⟩
      have g0 : ∀ o i, ¬ (o = 109 ∧ (i = 0 ∨ i = 2)) → gI κ0 o i = gI ι5 o i := fun o i q => by rw [hκ0, gI_p2 _ _ (by omega), gI_p2 _ _ (by omega)]
      have hT := m_text_in h52 hN (show n ≤ N by omega)
      rw [← hκ0] at hT
      rcases hJ κ0 (fun i => by rw [g0 _ _ (by omega), g5 _ _ (by omega) (by omega)]) with ⟨ι1', κ', e1, -⟩ | ⟨ι1', κ', f', ef1, ef2, e1, e2, e4, -, e5⟩
      · rw [j1] at e1
        exact absurd (Prod.ext_iff.mp (Option.some.inj e1)).1 (nI_ne0 (by omega) (by omega))
      · rw [j1] at e1
        obtain rfl : ι1 = ι1' := (Prod.ext_iff.mp (Option.some.inj e1)).2
        obtain rfl : f = f' := (nI_eq (by omega) (by omega)).mp (Prod.ext_iff.mp (Option.some.inj e1)).1
        have gk : ∀ o i, o ≠ 113 → o ≠ 109 → gI κ' o i = gI ι5 o i := fun o i w1 w2 => by rw [e5.1 o i w1 (by omega), g0 o i (by omega)]
        have gk2 : ∀ o i, (o < 11 ∨ 27 < o) → ¬ (o = 0 ∧ (i = 1 ∨ i = 6)) → o ≠ 113 → o ≠ 109 → gI κ' o i = gI ι o i := fun o i w1 w2 w3 w4 => by rw [gk o i w3 w4, g5 o i w1 w2]
        refine ⟨0, ι5, nI f - 10, κ', hW, by rw [hT]; exact e2, ?_, fun _ => ?_, ?_⟩
        · rw [e5.1 _ _ (by omega) (by omega), hκ0, gI_p2 _ _ (by omega), gI_p1]
        · rw [e5.2.1, hκ0, hι5, gJ_pI, gJ_pI, gJ_pJ, if_pos ⟨rfl, rfl⟩]
        · refine ⟨?_, ⟨0, by omega, ?_, ?_, fun k hk2 => by omega⟩, past_act (κ := ι) (a := a) (R := fun k => gI ι (115 + k)) ⟨hp, ha, ac1, hk⟩ (fun k => ?_) (fun o k w1 w2 => gk2 o k (by omega) (by omega) (by omega) (by omega)) (gk2 _ _ (by omega) (by omega) (by omega) (by omega)) ?_ (fun k hk2 i hi => gk2 _ _ (by omega) (by omega) (by omega) (by omega)), ?_, fun k hk2 => ?_⟩
          · rw [blk_eq (ι := ι) (fun j z hj => gk2 _ _ (by omega) (by omega) (by omega) (by omega)), show gI κ' 112 = gI ι 112 from funext fun z => gk2 _ _ (by omega) (by omega) (by omega) (by omega)]
            exact hL
          · rw [gk _ _ (by omega) (by omega), hι5, gI_pJ, gI_p2 _ _ (by omega), gI_p1]; rfl
          · rw [e5.1 _ _ (by omega) (by omega), hκ0, gI_p1]; rfl
          · rw [e5.2.2, hκ0, hι5]
            exact jD.2 29 k (by omega)
          · rw [e5.1 _ _ (by omega) (by omega), g0 _ _ (by omega), g5 _ _ (by omega) (by omega)]; exact ac2
          · rw [gk _ _ (by omega) (by omega), hι5, gI_pJ, gI_p1]; exact e4
          · rw [gk2 _ _ (by omega) (by omega) (by omega) (by omega), gk2 _ _ (by omega) (by omega) (by omega) (by omega)]; exact hrf k hk2
