section UN
variable {b : Nat → Nat} {n C : Nat} {p e : Nat → Nat}
def Flt (ι κ : iS) (f s : Nat) : Prop := 1 ≤ f ∧ f ≤ 5 ∧ gI ι 11 4 = nI f ∧ Pl ι s ∧ gI κ 109 6 = nI f ∧ gI κ 109 7 = nI s ∧ ∃ c, c ≤ 500 ∧ gI ι 21 2 = nI c
def KD (ι ι' : iS) : Prop := DW ι ι' ∧ ∀ o i, o ≠ 21 → o ≠ 22 → ¬ (o = 11 ∧ i = 5) → gI ι' o i = gI ι o i
def KM (κ κ' : iS) : Prop := MW κ κ' ∧ (∀ i, i < 123 → gI κ' 113 i = gI κ 113 i) ∧ gI κ' 109 15 = gI κ 109 15 ∧ gI κ' 109 7 = gI κ 109 7
theorem KD.tr {a b c : iS} (h1 : KD a b) (h2 : KD b c) : KD a c := ⟨h1.1.tr h2.1, fun o i q1 q2 q3 => (h2.2 o i q1 q2 q3).trans (h1.2 o i q1 q2 q3)⟩
theorem KM.tr {a b c : iS} (h1 : KM a b) (h2 : KM b c) : KM a c := ⟨h1.1.tr h2.1, fun i q => (h2.2.1 i q).trans (h1.2.1 i q), h2.2.2.1.trans h1.2.2.1, h2.2.2.2.trans h1.2.2.2⟩
theorem KD.rf (ι : iS) : KD ι ι := ⟨DW.rf ι, fun _ _ _ _ _ => rfl⟩
theorem KM.rf (κ : iS) : KM κ κ := ⟨MW.rf κ, fun _ _ => rfl, rfl, rfl⟩
theorem KD_on (ι : iS) (v : Int32) : KD ι (pI ι 11 5 v) := ⟨(DW.rf ι).pI _ (by omega), fun o i _ _ q => gI_p2 _ _ q⟩
theorem KM_at (κ : iS) (v : Int32) {k : Nat} (hk : k = 4 ∨ k = 14) : KM κ (pI κ 109 k v) := ⟨(MW.rf κ).at' _ (by omega), fun i _ => gI_p2 _ _ (by omega), gI_p2 _ _ (by omega), gI_p2 _ _ (by omega)⟩
theorem Flt_6 {ι κ : iS} {f s : Nat} (h : Flt ι κ f s) : ¬ gI κ 109 6 = 0 := by rw [h.2.2.2.2.1]; exact nI_ne0 (by have := h.1; omega) (by have := h.2.1; omega)
theorem Flt_of {ι κ : iS} {f s c : Nat} (hf : 1 ≤ f ∧ f ≤ 5) (hc : c ≤ 500) (h : gI ι 21 2 = nI c) (hs : Pl ι s) : Flt (fl ι f s) (wr κ f s) f s := by
  refine ⟨hf.1, hf.2, ?_, ?_, ?_, ?_, c, hc, ?_⟩
  · unfold fl; rw [gI_p1]
  · exact Pl_cg hs ((DW.rf ι).pI _ (by omega)) (by unfold fl; rw [gI_p2 _ _ (by omega)])
  · unfold wr; rw [gI_p2 _ _ (by omega), gI_p1]
  · unfold wr; rw [gI_p1]
  · unfold fl; rw [gI_p2 _ _ (by omega)]; exact h
theorem DW_fl (ι : iS) (f s : Nat) : DW ι (fl ι f s) := (DW.rf ι).pI _ (by omega)
theorem MW_wr (κ : iS) (f s : Nat) : MW κ (wr κ f s) := ((MW.rf κ).at' _ (by omega)).at' _ (by omega)
/-- what an expression's reading comes to -/
def ExJ (b : Nat → Nat) (n C : Nat) (p e : Nat → Nat) (ι κ : iS) (k a : Nat) (F : List (Nat × Nat)) (dep T m : Nat) (Dk : Option (Int32 × iS)) (Mk : Option iS) : Prop :=
  (∃ ι' κ' k' a' G, Dk = some (1, ι') ∧ Mk = some κ' ∧ Pos b n C p e ι' κ' k' a' ∧ FR ι' κ' (F ++ G) ∧ k < k' ∧ k + G.length ≤ k' ∧ a ≤ a' ∧ 2 * (enc7 G).length + 3 * a ≤ 3 * a' + 1 ∧ (∀ q ∈ G, okQ T q) ∧ sg G m ∧ gI κ' 109 14 = nI dep ∧ G ≠ [] ∧ KD ι ι' ∧ KM κ κ') ∨
  (∃ ι' κ' f s, Dk = some (0, ι') ∧ Mk = some κ' ∧ Flt ι' κ' f s ∧ DW ι ι' ∧ MW κ κ')
/-- what holds as an expression begins -/
def ExP (b : Nat → Nat) (n C : Nat) (p e : Nat → Nat) (ι κ : iS) (k a : Nat) (F : List (Nat × Nat)) (dep T : Nat) : Prop :=
  Pos b n C p e ι κ k a ∧ FR ι κ F ∧ gI κ 109 14 = nI dep ∧ (gI ι 12 0 = nI T ∧ gI κ 113 0 = nI T ∧ 1 ≤ T ∧ T ≤ 5) ∧ F.length ≤ k ∧ 2 * (enc7 F).length ≤ 3 * a + 1
theorem Pos_a {ι κ : iS} {k a : Nat} (h : Pos b n C p e ι κ k a) : a ≤ p k ∧ p k ≤ n ∧ n ≤ 500 ∧ C ≤ 500 := ⟨h.2.2.2.2.2.2.2.1, h.2.2.2.2.2.2.2.2.1, h.2.1.1, h.1.2.2.1⟩
/-- the leaf's number is read and told -/
theorem j_leafnum {ι κ : iS} {k a : Nat} {F : List (Nat × Nat)} {dep T kd hi k0 a0 : Nat} (h : Pos b n C p e ι κ k a) (hF : FR ι κ F) (ho : gI κ 109 14 = nI dep) (hkd : kd < 4) (hhi : hi < 100) (hok : ∀ v, v ≤ hi → okQ T (kd, v)) (hFk : F.length ≤ k) (hE : (enc7 F).length + 2 ≤ 760) (hk0 : k0 ≤ k) (ha0 : a0 ≤ a) (hcost : a0 ≤ p k) :
    ExJ b n C p e ι κ k0 a0 F dep T 1 (Option.bind (m_X3_readNumber (nI 0) (nI hi) ι) fun r50 => if r50.1 = (-1 : Int32) then some ((0 : Int32), r50.2) else Option.bind (m_X1_add (nI kd) r50.1 r50.2) fun r67 => some ((1 : Int32), r67)) (Option.bind (m_X7_number (nI 0) (nI hi) κ) fun r156 => Option.bind (m_X7_tells (nI (kd + 1)) r156.2) fun r162 => Option.bind (m_X7_tells r156.1 r162) fun r167 => some r167) := by
  have hb := Pos_a h
  have hkC0 := h.2.2.2.2.2.1
  rcases j_num (lo := 0) (hi := hi) h (by omega) (by omega) with ⟨v, hv1, hv2, hkC, e1, e2⟩ | ⟨f, w, x, hf, e1, e2⟩
  · refine Or.inl ?_
    have hP := Pos_on h hkC
    have hF' : FR (pI ι 11 5 (nI (k + 1))) (pI κ 109 4 (nI (e k))) F := FR_cg hF (fun o i q => gI_p2 _ _ (by omega)) (gI_p2 _ _ (by omega)) (fun i q => gI_p2 _ _ (by omega))
    obtain ⟨ι', κ1, κ2, a1, a2, a3, a4, a5, a6, a7, a8, a9, a10⟩ := FR_leaf (q := (kd, v)) hF' hP.2.2.2.1 hkd (show v < 128 by omega) (by omega) hE
    have hpe := (TK_next h.1 hkC).2
    have hD : DW (pI ι 11 5 (nI (k + 1))) ι' := ⟨fun o i q => a5 o i (by omega) (by omega), a6, a7⟩
    have hM : MW (pI κ 109 4 (nI (e k))) κ2 := ⟨fun o i q1 q2 => a8 o i (by omega) (by omega), a9, a10⟩
    have hle : (enc7 [(kd, v)]).length = 2 := by rw [enc7_leaf (q := (kd, v)) hkd]; rfl
    refine ⟨ι', κ2, k + 1, e k, [(kd, v)], ?_, ?_, Pos_cg hP hD hM (a5 _ _ (by omega) (by omega)) (a5 _ _ (by omega) (by omega)) (a8 _ _ (by omega) (by omega)) (a8 _ _ (by omega) (by omega)), a4, by omega, by show k0 + 1 ≤ k + 1; omega, by omega, by rw [hle]; omega, fun q hq => ?_, sg_leaf hkd, ?_, by simp, ?_, ?_⟩
    · rw [e1, Option.bind_some]
      dsimp only
      rw [if_neg (nI_nm1 (by omega)), a1]
      rfl
    · rw [e2, Option.bind_some]
      dsimp only
      rw [a2, Option.bind_some, a3]
      rfl
    · rw [List.mem_singleton] at hq
      rw [hq]
      exact hok v hv2
    · rw [a8 _ _ (by omega) (by omega), gI_p2 _ _ (by omega)]
      exact ho
    · exact (KD_on ι _).tr ⟨hD, fun o i q1 q2 _ => a5 o i q1 q2⟩
    · exact (KM_at κ _ (Or.inl rfl)).tr ⟨hM, fun i q => a8 _ _ (by omega) (by omega), a8 _ _ (by omega) (by omega), a8 _ _ (by omega) (by omega)⟩
  · refine Or.inr ⟨_, _, f, p k, ?_, ?_, Flt_of (f := f) (s := p k) (c := F.length) (by omega) (by omega) hF.1 (Pos_pl h), DW_fl ι f _, (((MW.rf κ).at' (k := 4) (nI x) (by omega))).tr (MW_wr _ f _)⟩
    · rw [e1, Option.bind_some]
      rfl
    · have h6 : ¬ gI (wr (pI κ 109 4 (nI x)) f (p k)) 109 6 = 0 := by
        unfold wr
        rw [gI_p2 _ _ (by omega), gI_p1]
        exact nI_ne0 (by omega) (by omega)
      rw [e2, Option.bind_some]
      dsimp only
      rw [m_tells_d h6, Option.bind_some, m_tells_d h6]
      rfl
def mLeaf (c : Int32) (κ : iS) : Option iS := Option.bind (m_X7_isDigit c κ) fun r76 => if r76.1 = 0 then Option.bind (m_X7_takes 9 r76.2) fun r89 => if r89.1 = 0 then Option.bind (m_X7_takes 10 r89.2) fun r102 => if r102.1 = 0 then Option.bind (m_X7_takes 11 r102.2) fun r115 => if r115.1 = 0 then Option.bind (m_X7_wrong (1 : Int32) (gI r115.2 109 4) r115.2) fun r137 => Option.bind (m_X7_traitTold r137) fun r156 => Option.bind (m_X7_tells (0 : Int32) r156.2) fun r162 => Option.bind (m_X7_tells r156.1 r162) fun r167 => some r167 else Option.bind (m_X7_traitTold r115.2) fun r156 => Option.bind (m_X7_tells (4 : Int32) r156.2) fun r162 => Option.bind (m_X7_tells r156.1 r162) fun r167 => some r167 else Option.bind (m_X7_traitTold r102.2) fun r156 => Option.bind (m_X7_tells (3 : Int32) r156.2) fun r162 => Option.bind (m_X7_tells r156.1 r162) fun r167 => some r167 else Option.bind (m_X7_traitTold r89.2) fun r156 => Option.bind (m_X7_tells (2 : Int32) r156.2) fun r162 => Option.bind (m_X7_tells r156.1 r162) fun r167 => some r167 else Option.bind (m_X7_number (0 : Int32) (99 : Int32) r76.2) fun r149 => Option.bind (m_X7_tells (1 : Int32) r149.2) fun r162 => Option.bind (m_X7_tells r149.1 r162) fun r167 => some r167
theorem part_eq (d : Nat) (κ : iS) : m_X7_part (d + 1) κ = Option.bind (m_X7_fine κ) fun r1 => if r1.1 = 0 then some r1.2 else Option.bind (m_X7_here r1.2) fun r9 => if r9.1 = (45 : Int32) then Option.bind (m_X7_opens r9.2) fun r20 => Option.bind (m_X7_part d r20) fun r24 => Option.bind (m_X7_tells (8 : Int32) r24) fun r30 => some (pI r30 109 14 ((gI r30 109 14) - (1 : Int32))) else if r9.1 = (40 : Int32) then Option.bind (m_X7_opens r9.2) fun r51 => Option.bind (m_X7_sum (m_X7_part d) r51) fun r55 => Option.bind (m_X7_must (41 : Int32) r55) fun r61 => some (pI r61 109 14 ((gI r61 109 14) - (1 : Int32))) else mLeaf r9.1 r9.2 := by
  rw [m_X7_part]
  rfl
theorem traitTold_eq (κ : iS) : m_X7_traitTold κ = m_X7_number 0 (gI κ 113 0 - 1) κ := by
  unfold m_X7_traitTold
  cases m_X7_number 0 (gI κ 113 0 - 1) κ with
  | none => rfl
  | some r => rfl
/-- a leaf behind its word -/
theorem j_leafword {ι κ : iS} {k a : Nat} {F : List (Nat × Nat)} {dep T kd x : Nat} (h : ExP b n C p e ι κ k a F dep T) (ha : a = p k) (hx : x < 12) (hkC : k < C) (hw : Wd b n x (p k)) (hkd : 1 ≤ kd ∧ kd < 4) :
    ExJ b n C p e ι κ k a F dep T 1 (Option.bind (m_X3_readNumber (0 : Int32) ((gI (pI ι 11 5 (nI k + (1 : Int32))) 12 0) - (1 : Int32)) (pI ι 11 5 (nI k + (1 : Int32)))) fun r50 => if r50.1 = (-1 : Int32) then some ((0 : Int32), r50.2) else Option.bind (m_X1_add (nI kd) r50.1 r50.2) fun r67 => some ((1 : Int32), r67)) (Option.bind (m_X7_traitTold (pI κ 109 4 (nI (p k + aLen.getD x 0)))) fun r156 => Option.bind (m_X7_tells (nI (kd + 1)) r156.2) fun r162 => Option.bind (m_X7_tells r156.1 r162) fun r167 => some r167) := by
  obtain ⟨hp, hF, ho, ⟨t1, t2, t3, t4⟩, hFk, hE⟩ := h
  have hb := Pos_a hp
  obtain ⟨w1, -, -⟩ := Wd_end hx hp.1 hkC hw
  have hP := Pos_on hp hkC
  have hpe := TK_next hp.1 hkC
  have hT1 : nI T - 1 = nI (T - 1) := pk_sub (a := T) (b := 1) (by omega)
  have hF' : FR (pI ι 11 5 (nI (k + 1))) (pI κ 109 4 (nI (e k))) F := FR_cg hF (fun o i q => gI_p2 _ _ (by omega)) (gI_p2 _ _ (by omega)) (fun i q => gI_p2 _ _ (by omega))
  rw [nI_1, gI_p2 _ _ (by omega), t1, hT1, ← w1, traitTold_eq, gI_p2 _ _ (by omega), t2, hT1]
  have := j_leafnum (k0 := k) (a0 := a) (kd := kd) (hi := T - 1) (T := T) hP hF' (by rw [gI_p2 _ _ (by omega)]; exact ho) hkd.2 (by omega) (fun v hv => ⟨⟨show kd < 8 by omega, fun z => by have z : 4 ≤ kd := z; omega⟩, fun z => by have z : kd = 0 := z; omega, fun _ _ => show v < T by omega⟩) (by omega) (by omega) (by omega) (by omega) (by have := hpe.1.1; omega)
  rcases this with ⟨ι', κ', k', a', G, e1, e2, e3, e4, e5, e6, e7, e8, e9, e10, e11, e12, e13, e14⟩ | ⟨ι', κ', f, s, e1, e2, e3, e4, e5⟩
  · exact Or.inl ⟨ι', κ', k', a', G, e1, e2, e3, e4, e5, e6, e7, e8, e9, e10, e11, e12, (KD_on ι _).tr e13, (KM_at κ _ (Or.inl rfl)).tr e14⟩
  · exact Or.inr ⟨ι', κ', f, s, e1, e2, e3, ((DW.rf ι).pI _ (by omega)).tr e4, ((MW.rf κ).at' _ (by omega)).tr e5⟩
theorem j_leaf {ι κ : iS} {k a : Nat} {F : List (Nat × Nat)} {dep T : Nat} (h : ExP b n C p e ι κ k a F dep T) (ha : a = p k) : ExJ b n C p e ι κ k a F dep T 1 (m_X3_readLeaf ι) (mLeaf (bq b n (p k)) κ) := by
  obtain ⟨hp, hF, ho, ⟨t1, t2, t3, t4⟩, hFk, hE⟩ := id h
  obtain ⟨hT, hM, h4, h6, h5, hk, hat, hc⟩ := id hp
  have hb := Pos_a hp
  have hbb : p k < n → b (p k) < 256 := fun q => (hM.2.2 _ q).2
  have hat' : gI κ 109 4 = nI (p k) := by rw [hat, ha]
  have hk1 : k < C ↔ p k < n := Pos_lt hp
  by_cases hd : k < C ∧ dig (b (p k))
  · have e1 : m_X3_leafKindAt ι = some (0, ι) := by
      unfold m_X3_leafKindAt
      rw [h5, (d_isNumber hT hk).1 hd, Option.bind_some]
      rfl
    have ebq : bq b n (p k) = nI (b (p k)) := if_pos (hk1.mp hd.1)
    have := j_leafnum (k0 := k) (a0 := a) (kd := 0) (hi := 99) (T := T) hp hF ho (by omega) (by omega) (fun v hv => ⟨⟨show 0 < 8 by omega, fun z => by have z : 4 ≤ 0 := z; omega⟩, fun _ => show v < 100 by omega, fun z _ => by have z : 1 ≤ 0 := z; omega⟩) hFk (by omega) (by omega) (by omega) (by omega)
    unfold m_X3_readLeaf mLeaf
    rw [e1, Option.bind_some, ebq, m_digit_y hd.2, Option.bind_some]
    dsimp only
    rw [if_neg (by decide), if_pos rfl, if_pos rfl, if_neg i10]
    exact this
  · have hn0 : m_X4_isNumber (nI k) ι = some (0, ι) := (d_isNumber hT hk).2 hd
    have hdq := m_digit_q (κ := κ) hbb (fun q => hd ⟨hk1.mpr q.1, q.2⟩)
    have hno : ∀ x, x < 12 → ¬ (k < C ∧ Wd b n x (p k)) → m_X4_isWord (nI k) x ι = some (0, ι) ∧ m_X7_takes x κ = some (0, κ) := fun x hx q => by
      refine ⟨(d_isWord hx hT hk).2 q, ?_⟩
      have := (m_takes hx hM h6 hat hc).2 (fun w => q ⟨hk1.mpr (by have := w.1; have := (wd_pos x hx).1; omega), w⟩)
      rw [this, pI_self _ _ _ hat']
    have hyes : ∀ x, x < 12 → (k < C ∧ Wd b n x (p k)) → m_X4_isWord (nI k) x ι = some (1, ι) ∧ m_X7_takes x κ = some (1, pI κ 109 4 (nI (p k + aLen.getD x 0))) := fun x hx q => ⟨(d_isWord hx hT hk).1 q, (m_takes hx hM h6 hat hc).1 q.2⟩
    have hlk : ∀ x kd, x < 12 → (1 ≤ kd ∧ kd < 4) → (k < C ∧ Wd b n x (p k)) → m_X3_leafKindAt ι = some (nI kd, ι) → mLeaf (bq b n (p k)) κ = (Option.bind (m_X7_traitTold (pI κ 109 4 (nI (p k + aLen.getD x 0)))) fun r156 => Option.bind (m_X7_tells (nI (kd + 1)) r156.2) fun r162 => Option.bind (m_X7_tells r156.1 r162) fun r167 => some r167) → ExJ b n C p e ι κ k a F dep T 1 (m_X3_readLeaf ι) (mLeaf (bq b n (p k)) κ) := fun x kd hx hkd hw e1 e2 => by
      have := j_leafword h ha hx hw.1 hw.2 hkd
      rw [e2]
      unfold m_X3_readLeaf
      rw [e1, Option.bind_some]
      dsimp only
      rw [if_neg (nI_nm1 (by omega)), if_neg (nI_ne0 (by omega) (by omega)), if_neg (nI_ne0 (by omega) (by omega)), h5]
      exact this
    by_cases w9 : k < C ∧ Wd b n 9 (p k)
    · refine hlk 9 1 (by omega) (by omega) w9 ?_ ?_
      · unfold m_X3_leafKindAt
        rw [h5, hn0, Option.bind_some]
        dsimp only
        rw [if_pos rfl, h5, (hyes 9 (by omega) w9).1, Option.bind_some]
        rfl
      · unfold mLeaf
        rw [hdq, Option.bind_some]
        dsimp only
        rw [if_pos rfl, (hyes 9 (by omega) w9).2, Option.bind_some]
        rfl
    · by_cases w10 : k < C ∧ Wd b n 10 (p k)
      · refine hlk 10 2 (by omega) (by omega) w10 ?_ ?_
        · unfold m_X3_leafKindAt
          rw [h5, hn0, Option.bind_some]
          dsimp only
          rw [if_pos rfl, h5, (hno 9 (by omega) w9).1, Option.bind_some]
          dsimp only
          rw [if_pos rfl, h5, (hyes 10 (by omega) w10).1, Option.bind_some]
          rfl
        · unfold mLeaf
          rw [hdq, Option.bind_some]
          dsimp only
          rw [if_pos rfl, (hno 9 (by omega) w9).2, Option.bind_some]
          dsimp only
          rw [if_pos rfl, (hyes 10 (by omega) w10).2, Option.bind_some]
          rfl
      · by_cases w11 : k < C ∧ Wd b n 11 (p k)
        · refine hlk 11 3 (by omega) (by omega) w11 ?_ ?_
          · unfold m_X3_leafKindAt
            rw [h5, hn0, Option.bind_some]
            dsimp only
            rw [if_pos rfl, h5, (hno 9 (by omega) w9).1, Option.bind_some]
            dsimp only
            rw [if_pos rfl, h5, (hno 10 (by omega) w10).1, Option.bind_some]
            dsimp only
            rw [if_pos rfl, h5, (hyes 11 (by omega) w11).1, Option.bind_some]
            rfl
          · unfold mLeaf
            rw [hdq, Option.bind_some]
            dsimp only
            rw [if_pos rfl, (hno 9 (by omega) w9).2, Option.bind_some]
            dsimp only
            rw [if_pos rfl, (hno 10 (by omega) w10).2, Option.bind_some]
            dsimp only
            rw [if_pos rfl, (hyes 11 (by omega) w11).2, Option.bind_some]
            rfl
        · have h6' : ¬ gI (wr κ 1 (p k)) 109 6 = 0 := by
            unfold wr
            rw [gI_p2 _ _ (by omega), gI_p1]
            decide
          refine Or.inr ⟨fl ι 1 (p k), wr κ 1 (p k), 1, p k, ?_, ?_, Flt_of (by omega) (c := F.length) (by omega) hF.1 (Pos_pl hp), DW_fl ι 1 _, MW_wr κ 1 _⟩
          · have e1 : m_X3_leafKindAt ι = some (-1, ι) := by
              unfold m_X3_leafKindAt
              rw [h5, hn0, Option.bind_some]
              dsimp only
              rw [if_pos rfl, h5, (hno 9 (by omega) w9).1, Option.bind_some]
              dsimp only
              rw [if_pos rfl, h5, (hno 10 (by omega) w10).1, Option.bind_some]
              dsimp only
              rw [if_pos rfl, h5, (hno 11 (by omega) w11).1, Option.bind_some]
              rfl
            unfold m_X3_readLeaf
            rw [e1, Option.bind_some]
            dsimp only
            rw [if_pos rfl, show m_X3_fail 1 ι = some (0, fl ι 1 (p k)) from d_fail hp 1, Option.bind_some]
            dsimp only
            rw [if_pos (Or.inl rfl)]
          · unfold mLeaf
            rw [hdq, Option.bind_some]
            dsimp only
            rw [if_pos rfl, (hno 9 (by omega) w9).2, Option.bind_some]
            dsimp only
            rw [if_pos rfl, (hno 10 (by omega) w10).2, Option.bind_some]
            dsimp only
            rw [if_pos rfl, (hno 11 (by omega) w11).2, Option.bind_some]
            dsimp only
            rw [if_pos rfl, hat', m_wrong_y h6, Option.bind_some, show pI (pI κ 109 6 1) 109 7 (nI (p k)) = wr κ 1 (p k) from rfl, traitTold_eq, m_num_d h6', Option.bind_some]
            dsimp only
            rw [m_tells_d h6', Option.bind_some, m_tells_d h6']
            rfl
end UN
