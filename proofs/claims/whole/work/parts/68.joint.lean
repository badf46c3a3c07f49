/-! both sides read on: a token here, its bytes there -/
theorem Wd_end {ι : iS} {b : Nat → Nat} {n C k x : Nat} {p e : Nat → Nat} (hx : x < 12) (h : TK ι b n C p e) (hk : k < C) (hw : Wd b n x (p k)) : e k = p k + aLen.getD x 0 ∧ gI ι 25 k = 1 ∧ gI ι 27 k = nI (aLen.getD x 0) := by
  obtain ⟨hl0, hl8⟩ := wd_pos x hx
  obtain ⟨h1, f1, f2, f3, f4, f5, f6, f7, f8, f9⟩ := h
  have hn := h1.1
  obtain ⟨⟨⟨g1, g2, g3⟩, g⟩, -⟩ := f9 k (by omega) hk
  obtain ⟨w1, w2, w3⟩ := hw
  have wl : ∀ j, j < aLen.getD x 0 → let' (b (p k + j)) := fun j hj => by
    obtain ⟨c, hc, hcl, hcc⟩ := wd_let x hx j hj
    have := (w2 j hj).trans hcc
    rw [(nI_eq (by have := (h1.2.2.2 (p k + j) (by omega)).2; omega) (by omega)).mp this]
    exact hcl
  have w0 := wl 0 hl0
  rcases g with ⟨ga, gb, gc, gd⟩ | ⟨-, -, gc, -⟩ | ⟨-, -, -, gc, -⟩
  · have e1 : e k = p k + aLen.getD x 0 := by
      rcases Nat.lt_trichotomy (e k) (p k + aLen.getD x 0) with z | z | z
      · have := wl (e k - p k) (by omega)
        rw [show p k + (e k - p k) = e k by omega] at this
        rcases gd with y | y
        · omega
        · exact absurd this y
      · exact z
      · rcases w3 with y | y
        · omega
        · exact absurd (gc (p k + aLen.getD x 0) (by omega) z) y
    exact ⟨e1, ga, by rw [gb, e1, Nat.add_sub_cancel_left]⟩
  · have := gc (p k) (Nat.le_refl _) g1
    have h3 := this.2
    have h4 := w0.1
    rw [Nat.add_zero] at h4
    omega
  · rw [Nat.add_zero] at w0
    exact absurd w0 gc
theorem d_word_cmp {ι : iS} {b : Nat → Nat} {n k x s : Nat} (hx : x < 12) (h : DB ι b n) (hk : k ≤ 500) (h26 : gI ι 26 k = nI s) (h27 : gI ι 27 k = nI (aLen.getD x 0)) (hs : s + aLen.getD x 0 ≤ n) : ∀ d j m, j + d = aLen.getD x 0 → d < m → (∀ i, i < j → nI (b (s + i)) = sCh x i) → ((∀ i, i < aLen.getD x 0 → nI (b (s + i)) = sCh x i) → l_X4_isWord_35 x m (nI k) (nI j) ι = some (1, ι)) ∧ (¬ (∀ i, i < aLen.getD x 0 → nI (b (s + i)) = sCh x i) → l_X4_isWord_35 x m (nI k) (nI j) ι = some (0, ι)) := by
  have hn := h.1
  obtain ⟨hl0, hl8⟩ := wd_pos x hx
  intro d
  induction d with
  | zero =>
    intro j m hj hm hall
    obtain ⟨m, rfl⟩ : ∃ y, m = y + 1 := ⟨m - 1, by omega⟩
    obtain rfl : j = aLen.getD x 0 := by omega
    refine ⟨fun _ => ?_, fun q => absurd hall q⟩
    rw [l_X4_isWord_35, if_pos (aIn_nI (by omega) (by omega)), nI_clamp (by omega), h27, if_pos (Int32.le_refl _)]
  | succ d ih =>
    intro j m hj hm hall
    obtain ⟨m, rfl⟩ : ∃ y, m = y + 1 := ⟨m - 1, by omega⟩
    have hbj := h.2.2.2 (s + j) (by omega)
    obtain ⟨c, hc, -, hcc⟩ := wd_let x hx j (by omega)
    rw [l_X4_isWord_35, if_pos (aIn_nI (by omega) (by omega)), nI_clamp (by omega), h27, if_neg (nI_ge (by omega) (by omega)), if_pos h.2.1, if_pos (aIn_nI (by omega) (by omega)), h26, nI_add, if_pos (aIn_nI (by omega) (by omega)), if_pos (aIn_nI (by omega) (by omega)), nI_clamp (by omega), nI_clamp (by omega), hbj.1, hcc, nI_1]
    by_cases q : b (s + j) = c
    · rw [if_pos ((db_eq hbj.2 hc).mpr q)]
      exact ih (j + 1) m (by omega) (by omega) (fun i hi => by
        by_cases z : i = j
        · rw [z, q, hcc]
        · exact hall i (by omega))
    · rw [if_neg (fun w => q ((db_eq hbj.2 hc).mp w))]
      refine ⟨fun w => absurd ((nI_eq (by omega) (by omega)).mp ((w j (by omega)).trans hcc)) q, fun _ => rfl⟩
theorem d_isWord {ι : iS} {b : Nat → Nat} {n C k x : Nat} {p e : Nat → Nat} (hx : x < 12) (h : TK ι b n C p e) (hk : k ≤ C) : (k < C ∧ Wd b n x (p k) → m_X4_isWord (nI k) x ι = some (1, ι)) ∧ (¬ (k < C ∧ Wd b n x (p k)) → m_X4_isWord (nI k) x ι = some (0, ι)) := by
  have hend := fun q w => Wd_end (k := k) hx h q w
  obtain ⟨h1, f1, f2, f3, f4, f5, f6, f7, f8, f9⟩ := h
  have hn := h1.1
  unfold m_X4_isWord
  rw [f3, if_neg (nI_ge (by omega) (by omega)), if_pos (aIn_nI (by omega) (by omega)), if_pos (aIn_nI (by omega) (by omega)), nI_clamp (by omega)]
  refine ⟨fun ⟨q1, q2⟩ => ?_, fun q => ?_⟩
  · obtain ⟨e1, e2, e3⟩ := hend q1 q2
    rw [if_pos e2, if_pos (show gI ι 27 k = sLen x from e3)]
    exact (d_word_cmp hx h1 (by omega) (f5 k (by omega) hk) e3 q2.1 (aLen.getD x 0) 0 aF (by omega) (by have := wd_pos x hx; unfold aF; omega) (fun i hi => by omega)).1 q2.2.1
  · by_cases z : k = C
    · rw [if_neg (by rw [z, f4]; decide)]
    · have hkC : k < C := by omega
      obtain ⟨⟨⟨g1, g2, g3⟩, g⟩, -⟩ := f9 k (by omega) hkC
      rcases g with ⟨ga, gb, gc, gd⟩ | ⟨ga, -⟩ | ⟨ga, -⟩
      · rw [if_pos ga]
        by_cases y : gI ι 27 k = sLen x
        · rw [if_pos y]
          have hl8 := wd_pos x hx
          have e1 : e k - p k = aLen.getD x 0 := (nI_eq (by omega) (by omega)).mp (gb.symm.trans y)
          have hle : p k + aLen.getD x 0 = e k := by omega
          exact (d_word_cmp hx h1 (by omega) (f5 k (by omega) hk) y (by omega) (aLen.getD x 0) 0 aF (by omega) (by unfold aF; omega) (fun i hi => by omega)).2 (fun w => q ⟨hkC, by omega, w, by rw [hle]; exact gd⟩)
        · rw [if_neg y]
      · rw [if_neg (by rw [ga]; decide)]
      · rw [if_neg (by rw [ga]; decide)]
theorem Wd_un {b : Nat → Nat} {n x y s : Nat} (hb : ∀ i, i < n → b i < 256) (hn : n ≤ 500) (hx : x < 12) (hy : y < 12) (h1 : Wd b n x s) (h2 : Wd b n y s) : x = y := by
  have hl : ∀ z, z < 12 → Wd b n z s → ∀ j, j < aLen.getD z 0 → let' (b (s + j)) := fun z hz hw j hj => by
    obtain ⟨c, hc, hcl, hcc⟩ := wd_let z hz j hj
    have := (hw.2.1 j hj).trans hcc
    rw [(nI_eq (by have := hb (s + j) (by have := hw.1; omega); omega) (by omega)).mp this]
    exact hcl
  have e : aLen.getD x 0 = aLen.getD y 0 := by
    rcases Nat.lt_trichotomy (aLen.getD x 0) (aLen.getD y 0) with z | z | z
    · have := hl y hy h2 _ z
      rcases h1.2.2 with w | w
      · have := h2.1; omega
      · exact absurd this w
    · exact z
    · have := hl x hx h1 _ z
      rcases h2.2.2 with w | w
      · have := h1.1; omega
      · exact absurd this w
  exact env_inj x hx y hy e (fun j hj => (h1.2.1 j hj).symm.trans (h2.2.1 j (by omega)))
section JT
variable {b : Nat → Nat} {n C : Nat} {p e : Nat → Nat}
def Pos (b : Nat → Nat) (n C : Nat) (p e : Nat → Nat) (ι κ : iS) (k a : Nat) : Prop := TK ι b n C p e ∧ MB κ b n ∧ gI ι 11 4 = 0 ∧ gI κ 109 6 = 0 ∧ gI ι 11 5 = nI k ∧ k ≤ C ∧ gI κ 109 4 = nI a ∧ Cr b n a (p k)
def DW (ι ι' : iS) : Prop := (∀ o i, (o < 11 ∨ 22 < o) → gI ι' o i = gI ι o i) ∧ gJ ι' = gJ ι ∧ gP ι' = gP ι
def MW (κ κ' : iS) : Prop := (∀ o i, o ≠ 113 → ¬ (o = 109 ∧ (i = 4 ∨ i = 6 ∨ i = 7 ∨ i = 13 ∨ i = 14 ∨ i = 15)) → gI κ' o i = gI κ o i) ∧ gJ κ' = gJ κ ∧ gP κ' = gP κ
theorem DW.rf (ι : iS) : DW ι ι := ⟨fun _ _ _ => rfl, rfl, rfl⟩
theorem MW.rf (κ : iS) : MW κ κ := ⟨fun _ _ _ _ => rfl, rfl, rfl⟩
theorem DW.tr {a b c : iS} (h1 : DW a b) (h2 : DW b c) : DW a c := ⟨fun o i q => (h2.1 o i q).trans (h1.1 o i q), h2.2.1.trans h1.2.1, h2.2.2.trans h1.2.2⟩
theorem MW.tr {a b c : iS} (h1 : MW a b) (h2 : MW b c) : MW a c := ⟨fun o i q w => (h2.1 o i q w).trans (h1.1 o i q w), h2.2.1.trans h1.2.1, h2.2.2.trans h1.2.2⟩
theorem DW.pI {a b : iS} (h : DW a b) {o k : Nat} (v : Int32) (ho : 11 ≤ o ∧ o ≤ 22) : DW a (pI b o k v) := ⟨fun y i q => by rw [gI_p2 _ _ (by omega)]; exact h.1 y i q, h.2.1, h.2.2⟩
theorem MW.at' {a b : iS} (h : MW a b) {k : Nat} (v : Int32) (hk : k = 4 ∨ k = 6 ∨ k = 7 ∨ k = 13 ∨ k = 14 ∨ k = 15) : MW a (pI b 109 k v) := ⟨fun y i q w => by rw [gI_p2 _ _ (fun z => w ⟨z.1, by omega⟩)]; exact h.1 y i q w, h.2.1, h.2.2⟩
theorem MW.row {a b : iS} (h : MW a b) {k : Nat} (v : Int32) : MW a (pI b 113 k v) := ⟨fun y i q w => by rw [gI_p2 _ _ (fun z => q z.1)]; exact h.1 y i q w, h.2.1, h.2.2⟩
theorem TK_cg {ι ι' : iS} (h : TK ι b n C p e) (hd : DW ι ι') : TK ι' b n C p e := by
  obtain ⟨⟨a1, a2, a3, a4⟩, f1, f2, f3, f4, f5, f6, f7, f8, f9⟩ := h
  have g : ∀ o i, 22 < o → gI ι' o i = gI ι o i := fun o i q => hd.1 o i (Or.inr q)
  refine ⟨⟨a1, by rw [hd.2.2]; exact a2, by rw [g _ _ (by omega)]; exact a3, fun i hi => by rw [hd.1 _ _ (by omega)]; exact a4 i hi⟩, f1, f2, by rw [g _ _ (by omega)]; exact f3, by rw [g _ _ (by omega)]; exact f4, fun k h1 h2 => by rw [g _ _ (by omega)]; exact f5 k h1 h2, f6, f7, f8, fun k h1 h2 => ?_⟩
  obtain ⟨q1, q2⟩ := f9 k h1 h2
  exact ⟨T1_cg q1 (g _ _ (by omega)) (g _ _ (by omega)), q2⟩
theorem MB_cg {κ κ' : iS} (h : MB κ b n) (hm : MW κ κ') : MB κ' b n := ⟨h.1, by rw [hm.1 _ _ (by omega) (by omega)]; exact h.2.1, fun i hi => by rw [hm.1 _ _ (by omega) (by omega)]; exact h.2.2 i hi⟩
theorem Pos_cg {ι ι' κ κ' : iS} {k a : Nat} (h : Pos b n C p e ι κ k a) (hd : DW ι ι') (hm : MW κ κ') (h1 : gI ι' 11 4 = gI ι 11 4) (h2 : gI ι' 11 5 = gI ι 11 5) (h3 : gI κ' 109 6 = gI κ 109 6) (h4 : gI κ' 109 4 = gI κ 109 4) : Pos b n C p e ι' κ' k a :=
  ⟨TK_cg h.1 hd, MB_cg h.2.1 hm, h1.trans h.2.2.1, h3.trans h.2.2.2.1, h2.trans h.2.2.2.2.1, h.2.2.2.2.2.1, h4.trans h.2.2.2.2.2.2.1, h.2.2.2.2.2.2.2⟩
theorem TK_next {ι : iS} {k : Nat} (h : TK ι b n C p e) (hk : k < C) : Cr b n (e k) (p (k + 1)) ∧ p k < e k := by
  have hq : ∀ j, j ≤ C → p j ≤ n ∧ (p j = n ∨ b (p j) ≠ 32) := fun j hj => by
    by_cases z : j = C
    · rw [z, h.2.2.2.2.2.2.1]; exact ⟨Nat.le_refl n, Or.inl rfl⟩
    · have := TK_lt h (k := j) (by omega)
      exact ⟨by omega, Or.inr this.2.1⟩
  have hq1 := hq (k + 1) (by omega)
  have h2 := TK_lt h hk
  obtain ⟨-, f1, f2, f3, f4, f5, f6, f7, f8, f9⟩ := h
  obtain ⟨-, g2, g3⟩ := f9 k (by omega) hk
  exact ⟨⟨g2, hq1.1, g3, hq1.2⟩, h2.2.2.1⟩
/-- one token on, on both sides -/
theorem Pos_on {ι κ : iS} {k a : Nat} (h : Pos b n C p e ι κ k a) (hk : k < C) : Pos b n C p e (pI ι 11 5 (nI (k + 1))) (pI κ 109 4 (nI (e k))) (k + 1) (e k) :=
  ⟨TK_cg h.1 ((DW.rf ι).pI _ (by omega)), MB_cg h.2.1 ((MW.rf κ).at' _ (by omega)), by rw [gI_p2 _ _ (by omega)]; exact h.2.2.1, by rw [gI_p2 _ _ (by omega)]; exact h.2.2.2.1, gI_p1 _ _ _ _, hk, gI_p1 _ _ _ _, (TK_next h.1 hk).1⟩
theorem Pos_here {ι κ : iS} {k a : Nat} (h : Pos b n C p e ι κ k a) : Pos b n C p e ι (pI κ 109 4 (nI (p k))) k (p k) :=
  ⟨h.1, MB_cg h.2.1 ((MW.rf κ).at' _ (by omega)), h.2.2.1, by rw [gI_p2 _ _ (by omega)]; exact h.2.2.2.1, h.2.2.2.2.1, h.2.2.2.2.2.1, gI_p1 _ _ _ _, Cr_s h.2.2.2.2.2.2.2⟩
theorem Pos_lt {ι κ : iS} {k a : Nat} (h : Pos b n C p e ι κ k a) : k < C ↔ p k < n := by
  constructor
  · intro q; exact (TK_lt h.1 q).1
  · intro q
    rcases Nat.lt_or_ge k C with z | z
    · exact z
    · have : k = C := by have := h.2.2.2.2.2.1; omega
      rw [this, h.1.2.2.2.2.2.2.1] at q
      omega
/-- a fault f at place s: the reader keeps its kind alone, and stands there -/
def fl (ι : iS) (f _s : Nat) : iS := pI ι 11 4 (nI f)
/-- the reader stands at place s -/
def Pl (ι : iS) (s : Nat) : Prop := m_X4_placeAt (gI ι 11 5) ι = some (nI s, ι)
theorem Pos_pl {ι κ : iS} {k a : Nat} (h : Pos b n C p e ι κ k a) : Pl ι (p k) := by
  unfold Pl
  rw [h.2.2.2.2.1]
  exact d_placeAt h.1 h.2.2.2.2.2.1
theorem Pl_cg {ι ι' : iS} {s : Nat} (h : Pl ι s) (hd : DW ι ι') (h5 : gI ι' 11 5 = gI ι 11 5) : Pl ι' s := by
  unfold Pl m_X4_placeAt at h ⊢
  rw [h5, hd.1 24 3 (by omega), hd.1 24 5 (by omega), hd.1 26 _ (by omega)]
  by_cases z : gI ι 24 3 ≤ gI ι 11 5
  · rw [if_pos z] at h ⊢
    have z2 : gI ι 24 5 = nI s := (Prod.ext_iff.mp (Option.some.inj h)).1
    rw [z2]
  · rw [if_neg z] at h ⊢
    by_cases y : aIn (gI ι 11 5) 501 = true
    · rw [if_pos y] at h ⊢
      have z2 : gI ι 26 (gI ι 11 5).toNatClampNeg = nI s := (Prod.ext_iff.mp (Option.some.inj h)).1
      rw [z2]
    · rw [if_neg y] at h
      cases h
theorem d_fail {ι κ : iS} {k a : Nat} (h : Pos b n C p e ι κ k a) (f : Nat) : m_X3_fail (nI f) ι = some (0, fl ι f (p k)) := by
  have _ := h.1
  unfold m_X3_fail
  rfl
theorem j_num {ι κ : iS} {k a lo hi : Nat} (h : Pos b n C p e ι κ k a) (hlo : lo < 1000) (hhi : hi < 1000) :
    (∃ v, lo ≤ v ∧ v ≤ hi ∧ k < C ∧ m_X3_readNumber (nI lo) (nI hi) ι = some (nI v, pI ι 11 5 (nI (k + 1))) ∧ m_X7_number (nI lo) (nI hi) κ = some (nI v, pI κ 109 4 (nI (e k)))) ∨
    (∃ f w x, (f = 1 ∨ f = 2) ∧ m_X3_readNumber (nI lo) (nI hi) ι = some (-1, fl ι f (p k)) ∧ m_X7_number (nI lo) (nI hi) κ = some (w, wr (pI κ 109 4 (nI x)) f (p k))) := by
  obtain ⟨hT, hM, h4, h6, h5, hk, ha, hc⟩ := id h
  by_cases q : k < C ∧ dig (b (p k))
  · obtain ⟨c1, c2, c3⟩ := d_content hT q.1 q.2
    have hlt := TK_lt hT q.1
    have hm := m_num (lo := lo) (hi := hi) hM h6 ha hc hlt.2.2.1 hlt.2.2.2.1 c2 c3 hlo hhi
    have hv := val_le b (p k) (e k - p k)
    have hd : ∀ x y : Int32, m_X3_readNumber x y ι = (if nI (min 1000 (val b (p k) (e k - p k))) < x then Option.bind (m_X3_fail (2 : Int32) ι) fun r46 => some ((-1 : Int32), r46.2) else if nI (min 1000 (val b (p k) (e k - p k))) ≤ y then some (nI (min 1000 (val b (p k) (e k - p k))), (pI ι 11 5 (nI (k + 1)))) else Option.bind (m_X3_fail (2 : Int32) ι) fun r46 => some ((-1 : Int32), r46.2)) := fun x y => by
      unfold m_X3_readNumber
      rw [h5, (d_isNumber hT hk).1 q, Option.bind_some]
      dsimp only
      rw [if_neg i10, h5, c1, Option.bind_some]
      dsimp only
      rw [h5, nI_1]
    have hfl : (Option.bind (m_X3_fail (2 : Int32) ι) fun r46 => some ((-1 : Int32), r46.2)) = some (-1, fl ι 2 (p k)) := by
      rw [show m_X3_fail 2 ι = some (0, fl ι 2 (p k)) from d_fail h 2]
      rfl
    by_cases z : lo ≤ val b (p k) (e k - p k) ∧ val b (p k) (e k - p k) ≤ hi
    · refine Or.inl ⟨val b (p k) (e k - p k), z.1, z.2, q.1, ?_, ?_⟩
      · rw [hd, Nat.min_eq_right (by omega), if_neg (nI_nlt z.1 (by omega)), if_pos (nI_le z.2 (by omega))]
      · rw [hm, if_pos z]
    · refine Or.inr ⟨2, nI (val b (p k) (e k - p k)), e k, Or.inr rfl, ?_, ?_⟩
      · rw [hd, hfl]
        rcases Nat.lt_or_ge (min 1000 (val b (p k) (e k - p k))) lo with y | y
        · rw [if_pos (nI_lt y (by omega))]
        · rw [if_neg (nI_nlt y (by omega)), if_neg (nI_ge (Nat.lt_of_not_le fun w => z ⟨by omega, by omega⟩) (by omega))]
      · rw [hm, if_neg z]
  · refine Or.inr ⟨1, 0, p k, Or.inl rfl, ?_, ?_⟩
    · unfold m_X3_readNumber
      rw [h5, (d_isNumber hT hk).2 q, Option.bind_some]
      dsimp only
      rw [if_pos rfl, show m_X3_fail 1 ι = some (0, fl ι 1 (p k)) from d_fail h 1]
      rfl
    · exact m_num_no hM h6 ha hc (fun w => q ⟨(Pos_lt h).mpr w.1, w.2⟩) _ _
theorem sgn_end {ι : iS} {k c : Nat} (h : TK ι b n C p e) (hk : k < C) (hc : sgn c) (hb : b (p k) = c) : e k = p k + 1 := by
  obtain ⟨h1, f1, f2, f3, f4, f5, f6, f7, f8, f9⟩ := h
  obtain ⟨⟨⟨g1, -⟩, g⟩, -⟩ := f9 k (by omega) hk
  rcases g with ⟨-, -, z, -⟩ | ⟨-, -, z, -⟩ | ⟨-, -, z, -⟩
  · exact absurd (hb ▸ z (p k) (Nat.le_refl _) g1) hc.2.1
  · exact absurd (hb ▸ z (p k) (Nat.le_refl _) g1) hc.2.2
  · exact z
theorem j_sign {ι κ : iS} {k a c : Nat} (h : Pos b n C p e ι κ k a) (hc : sgn c) :
    (k < C ∧ m_X3_readSign (nI c) ι = some (1, pI ι 11 5 (nI (k + 1))) ∧ m_X7_must (nI c) κ = some (pI κ 109 4 (nI (e k)))) ∨
    (m_X3_readSign (nI c) ι = some (0, fl ι 1 (p k)) ∧ m_X7_must (nI c) κ = some (wr (pI κ 109 4 (nI (p k))) 1 (p k))) := by
  obtain ⟨hT, hM, h4, h6, h5, hk, ha, hcr⟩ := id h
  have hc2 := hc.1
  by_cases q : k < C ∧ b (p k) = c
  · refine Or.inl ⟨q.1, ?_, ?_⟩
    · unfold m_X3_readSign
      rw [h5, (d_isSign hT hk hc).1 q, Option.bind_some]
      dsimp only
      rw [if_neg i10, h5, nI_1]
    · rw [m_must_y hM h6 ha hcr (by omega) ⟨(Pos_lt h).mp q.1, q.2⟩, sgn_end hT q.1 hc q.2]
  · refine Or.inr ⟨?_, m_must_n hM h6 ha hcr (by omega) (fun w => q ⟨(Pos_lt h).mpr w.1, w.2⟩)⟩
    unfold m_X3_readSign
    rw [h5, (d_isSign hT hk hc).2 q, Option.bind_some]
    dsimp only
    rw [if_pos rfl, show m_X3_fail 1 ι = some (0, fl ι 1 (p k)) from d_fail h 1, Option.bind_some]
    dsimp only
    rw [if_pos (Or.inl rfl)]
end JT
