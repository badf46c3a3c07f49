/-! how well one matches, by the reference -/
def JS (ι ι' : iS) : Prop := gI ι' = gI ι ∧ gP ι' = gP ι ∧ ∀ o k, o ≠ 123 → gJ ι' o k = gJ ι o k
theorem JS.rf (ι : iS) : JS ι ι := ⟨rfl, rfl, fun _ _ _ => rfl⟩
theorem JS.tr {a b c : iS} (h1 : JS a b) (h2 : JS b c) : JS a c := ⟨h2.1.trans h1.1, h2.2.1.trans h1.2.1, fun o k q => (h2.2.2 o k q).trans (h1.2.2 o k q)⟩
theorem JS.pJ {a b : iS} (h : JS a b) (k : Nat) (v : Int64) : JS a (pJ b 123 k v) := ⟨h.1, h.2.1, fun o y q => by rw [gJ_pJ, if_neg (fun z => q z.1)]; exact h.2.2 o y q⟩
theorem JS.sm {a b : iS} (h : JS a b) : Sm a b := ⟨fun o k _ => by rw [h.1], fun k => by rw [h.2.1]⟩
theorem m_off {ι : iS} {p t : Nat} (hp : p < 16) (ht : t < 5) (g : Int32) : m_X7_offOf (nI p) (nI t) g ι = some (rOff (gI ι 112) p t g, ι) := by
  unfold m_X7_offOf rOff
  rw [show (89 : Int32) + nI t = nI (89 + t) from nI_add 89 t, if_pos (aIn_nI (by omega) (by omega)), nI_clamp (by omega)]
  by_cases h1 : gI ι 112 (89 + t) = -1
  · rw [if_pos h1, if_pos h1]
  · rw [if_neg h1, if_neg h1, m_val hp ht, Option.bind_some]
    dsimp only
    by_cases hg : g = 0
    · rw [if_pos hg, if_pos (aIn_nI (by omega) (by omega)), if_pos hg]
      by_cases h0 : 0 ≤ gI ι 112 (9 + 5 * p + t) - gI ι 112 (89 + t)
      · rw [if_pos h0, if_pos h0]
      · rw [if_neg h0, if_neg h0]
    · rw [if_neg hg, show m_X7_valueOf 0 (nI t) ι = m_X7_valueOf (nI 0) (nI t) ι from rfl, m_val (p := 0) (by omega) ht, Option.bind_some, if_neg hg]
      dsimp only
      rw [show 9 + 5 * 0 + t = 9 + t by omega]
      by_cases h0 : 0 ≤ gI ι 112 (9 + 5 * p + t) - gI ι 112 (9 + t)
      · rw [if_pos h0, if_pos h0]
      · rw [if_neg h0, if_neg h0]
theorem m_hold (x : Int64) (ι : iS) : m_X7_held x ι = some (hold x, ι) := by
  unfold m_X7_held hold
  by_cases h1 : x ≤ 1000000
  · rw [if_pos ((lg_cmp_le _ _).mpr h1), if_pos h1]
    by_cases h2 : -1000000 ≤ x
    · rw [if_pos ((lg_cmp_ge _ _).mpr h2), if_pos h2]
    · rw [if_neg (fun q => h2 ((lg_cmp_ge _ _).mp q)), if_neg h2]
  · rw [if_neg (fun q => h1 ((lg_cmp_le _ _).mp q)), if_neg h1]
/-- the stack in the heap, its top first -/
def Stk (f : Nat → Int64) : List Int64 → Prop
  | [] => True
  | a :: s => f s.length = a ∧ Stk f s
theorem Stk_cg {f g : Nat → Int64} : ∀ st : List Int64, (∀ i, i < st.length → g i = f i) → Stk f st → Stk g st := by
  intro st
  induction st with
  | nil => intro _ _; trivial
  | cons a s ih =>
    intro h hs
    exact ⟨(h s.length (by simp)).trans hs.1, ih (fun i hi => h i (by simp; omega)) hs.2⟩
theorem Stk_push {ι : iS} {st : List Int64} (h : Stk (gJ ι 123) st) (v : Int64) : Stk (gJ (pJ ι 123 st.length v) 123) (v :: st) :=
  ⟨by rw [gJ_pJ, if_pos ⟨rfl, rfl⟩], Stk_cg st (fun i hi => by rw [gJ_pJ, if_neg (by omega)]) h⟩
theorem enc7_leaf {q : Nat × Nat} {F : List (Nat × Nat)} (h : q.1 < 4) : enc7 (q :: F) = nI (q.1 + 1) :: nI q.2 :: enc7 F := by
  rw [enc7, if_pos h]
theorem enc7_op {q : Nat × Nat} {F : List (Nat × Nat)} (h : ¬ q.1 < 4) : enc7 (q :: F) = (if q.1 = 4 then 8 else nI q.1) :: enc7 F := by
  rw [enc7, if_neg h]
def At7 (r : Nat → Int32) (off : Nat) (F : List (Nat × Nat)) : Prop := off + (enc7 F).length ≤ 882 ∧ (∀ i, i < (enc7 F).length → r (off + i) = (enc7 F).getD i 0) ∧ r (off + (enc7 F).length) = 0
theorem At7_leaf {r : Nat → Int32} {off : Nat} {q : Nat × Nat} {F : List (Nat × Nat)} (h : q.1 < 4) (hA : At7 r off (q :: F)) : r off = nI (q.1 + 1) ∧ r (off + 1) = nI q.2 ∧ off + 2 ≤ 882 ∧ At7 r (off + 2) F := by
  obtain ⟨h1, h2, h3⟩ := hA
  rw [enc7_leaf h] at h1 h2 h3
  simp only [List.length_cons] at h1 h2 h3
  refine ⟨h2 0 (by omega), h2 1 (by omega), by omega, by omega, fun i hi => ?_, ?_⟩
  · have := h2 (i + 2) (by omega)
    rw [show off + 2 + i = off + (i + 2) by omega]
    exact this
  · rw [show off + 2 + (enc7 F).length = off + ((enc7 F).length + 1 + 1) by omega]
    exact h3
theorem At7_op {r : Nat → Int32} {off : Nat} {q : Nat × Nat} {F : List (Nat × Nat)} (h : ¬ q.1 < 4) (hA : At7 r off (q :: F)) : r off = (if q.1 = 4 then 8 else nI q.1) ∧ off + 1 ≤ 882 ∧ At7 r (off + 1) F := by
  obtain ⟨h1, h2, h3⟩ := hA
  rw [enc7_op h] at h1 h2 h3
  simp only [List.length_cons] at h1 h2 h3
  refine ⟨h2 0 (by omega), by omega, by omega, fun i hi => ?_, ?_⟩
  · have := h2 (i + 1) (by omega)
    rw [show off + 1 + i = off + (i + 1) by omega]
    exact this
  · rw [show off + 1 + (enc7 F).length = off + ((enc7 F).length + 1) by omega]
    exact h3
set_option maxHeartbeats 2000000 in
theorem m_formed {p T : Nat} (hp : p < 16) (hT : T ≤ 5) (g : Int32) : ∀ (F : List (Nat × Nat)) (off n : Nat) (st : List Int64) (ι : iS), (∀ q ∈ F, okQ T q) → At7 (gI ι 112) off F → rHgt F st.length = some 1 → st.length ≤ 16 → Stk (gJ ι 123) st → F.length < n → ∃ ι', l_X7_formed_6 n (nI p) g (nI st.length) (nI off) ι = some ((F.foldl (rStep (gI ι 112) p g) st).headD 0, ι') ∧ JS ι ι' := by
  intro F
  induction F with
  | nil =>
    intro off n st ι hok hA hh h16 hS hn
    obtain ⟨n, rfl⟩ : ∃ m, n = m + 1 := ⟨n - 1, by omega⟩
    have hl : st.length = 1 := Option.some.inj hh
    obtain ⟨h1, -, h3⟩ := hA
    have h1 : off ≤ 882 := h1
    have h3 : gI ι 112 off = 0 := h3
    match st, hl, hS with
    | [a], _, hS =>
      refine ⟨ι, ?_, JS.rf ι⟩
      rw [l_X7_formed_6, if_pos (aIn_nI (by omega) (by omega)), nI_clamp (by omega), if_pos h3, show gJ ι 123 0 = a from hS.1]
      rfl
  | cons q F ih =>
    intro off n st ι hok hA hh h16 hS hn
    obtain ⟨n, rfl⟩ : ∃ m, n = m + 1 := ⟨n - 1, by omega⟩
    rw [List.length_cons] at hn
    have hq := hok q List.mem_cons_self
    have hok' : ∀ q ∈ F, okQ T q := fun q h => hok q (List.mem_cons_of_mem _ h)
    rw [List.foldl_cons]
    by_cases h4 : q.1 < 4
    · obtain ⟨c1, c2, c3, c4⟩ := At7_leaf h4 hA
      rw [rHgt, if_pos h4] at hh
      have h16' : st.length < 16 := by
        rcases Nat.lt_or_ge st.length 16 with z | z
        · exact z
        · rw [if_neg (by omega)] at hh; cases hh
      rw [if_pos h16'] at hh
      obtain ⟨ι', e1, e2⟩ := ih (off + 2) n (rLeaf (gI ι 112) p g q :: st) (pJ ι 123 st.length (rLeaf (gI ι 112) p g q)) hok' c4 hh (by rw [List.length_cons]; omega) (Stk_push hS _) (by omega)
      refine ⟨ι', ?_, ((JS.rf ι).pJ _ _).tr e2⟩
      have e3 : rStep (gI ι 112) p g st q = rLeaf (gI ι 112) p g q :: st := by unfold rStep; rw [if_pos h4]
      rw [e3]
      refine Eq.trans ?_ e1
      rw [List.length_cons, l_X7_formed_6, if_pos (aIn_nI (by omega) (by omega)), nI_clamp (by omega), c1, if_neg (nI_ne0 (by omega) (by omega)), if_pos (aIn_nI (by omega) (by omega)), if_neg (show ¬ (5 : Int32) ≤ nI (q.1 + 1) from nI_ge (a := q.1 + 1) (b := 5) (by omega) (by omega)), nI_1, if_pos (aIn_nI (by omega) (by omega)), nI_clamp (n := off + 1) (by omega), c2, nI_1, nI_1]
      rcases (show q.1 = 0 ∨ q.1 = 1 ∨ q.1 = 2 ∨ q.1 = 3 by omega) with z | z | z | z
      · rw [z, if_pos (by decide), if_pos (aIn_nI (by omega) (by omega)), nI_clamp (by omega), show (nI q.2).toInt64 = rLeaf (gI ι 112) p g q by unfold rLeaf; rw [if_pos z]]
      · have hq2 := hq.2.2 (by omega) (by omega)
        rw [z, if_neg (by decide), if_pos (by decide), m_val hp (by omega), Option.bind_some, if_pos (aIn_nI (by omega) (by omega)), nI_clamp (by omega)]
        dsimp only
        rw [show (gI ι 112 (9 + 5 * p + q.2)).toInt64 = rLeaf (gI ι 112) p g q by unfold rLeaf; rw [if_neg (by omega), if_pos z]]
      · have hq2 := hq.2.2 (by omega) (by omega)
        rw [z, if_neg (by decide), if_neg (by decide), if_pos (by decide), m_off hp (by omega), Option.bind_some, if_pos (aIn_nI (by omega) (by omega)), nI_clamp (by omega)]
        dsimp only
        rw [show (rOff (gI ι 112) p q.2 g).toInt64 = rLeaf (gI ι 112) p g q by unfold rLeaf; rw [if_neg (by omega), if_neg (by omega), if_pos z]]
      · have hq2 := hq.2.2 (by omega) (by omega)
        rw [z, if_neg (by decide), if_neg (by decide), if_neg (by decide), show (94 : Int32) + nI q.2 = nI (94 + q.2) from nI_add 94 _, if_pos (aIn_nI (by omega) (by omega)), if_pos (aIn_nI (by omega) (by omega)), nI_clamp (by omega), nI_clamp (by omega), show (gI ι 112 (94 + q.2)).toInt64 = rLeaf (gI ι 112) p g q by unfold rLeaf; rw [if_neg (by omega), if_neg (by omega), if_neg (by omega)]]
    · obtain ⟨c1, c3, c4⟩ := At7_op h4 hA
      rw [rHgt, if_neg h4] at hh
      by_cases h44 : q.1 = 4
      · rw [if_pos h44] at hh c1
        have h1 : 1 ≤ st.length := by
          rcases Nat.lt_or_ge st.length 1 with z | z
          · rw [if_neg (by omega)] at hh; cases hh
          · exact z
        rw [if_pos h1] at hh
        match st, h1, hh, h16, hS with
        | a :: s, h1, hh, h16, hS =>
          rw [List.length_cons] at hh h16
          obtain ⟨ι', e1, e2⟩ := ih (off + 1) n (-a :: s) (pJ ι 123 s.length (-a)) hok' c4 hh h16 (Stk_push hS.2 _) (by omega)
          refine ⟨ι', ?_, ((JS.rf ι).pJ _ _).tr e2⟩
          have e3 : rStep (gI ι 112) p g (a :: s) q = -a :: s := by unfold rStep; rw [if_neg h4, if_pos h44]
          rw [e3]
          refine Eq.trans ?_ e1
          rw [List.length_cons, List.length_cons, l_X7_formed_6, if_pos (aIn_nI (by omega) (by omega)), nI_clamp (by omega), c1, if_neg (by decide), if_pos (aIn_nI (by omega) (by omega)), if_pos (by decide), if_pos rfl, nI_pred, if_pos (aIn_nI (by omega) (by omega)), if_pos (aIn_nI (by omega) (by omega)), nI_clamp (by omega), nI_1, show gJ ι 123 s.length = a from hS.1]
      · rw [if_neg h44] at hh c1
        have h1 : 2 ≤ st.length := by
          rcases Nat.lt_or_ge st.length 2 with z | z
          · rw [if_neg (by omega)] at hh; cases hh
          · exact z
        rw [if_pos h1] at hh
        match st, h1, hh, h16, hS with
        | b :: a :: s, h1, hh, h16, hS =>
          rw [List.length_cons, List.length_cons] at hh h16
          obtain ⟨ι', e1, e2⟩ := ih (off + 1) n (rJoin q.1 a b :: s) (pJ ι 123 s.length (rJoin q.1 a b)) hok' c4 hh (by rw [List.length_cons]; omega) (Stk_push hS.2.2 _) (by omega)
          refine ⟨ι', ?_, ((JS.rf ι).pJ _ _).tr e2⟩
          have e3 : rStep (gI ι 112) p g (b :: a :: s) q = rJoin q.1 a b :: s := by unfold rStep; rw [if_neg h4, if_neg h44]
          rw [e3]
          refine Eq.trans ?_ e1
          have hb : gJ ι 123 (s.length + 1) = b := hS.1
          have ha : gJ ι 123 s.length = a := hS.2.1
          have hq8 := hq.1.1
          rw [List.length_cons, List.length_cons, List.length_cons, l_X7_formed_6, if_pos (aIn_nI (by omega) (by omega)), nI_clamp (by omega), c1, if_neg (nI_ne0 (by omega) (by omega)), if_pos (aIn_nI (by omega) (by omega)), if_pos (show (5 : Int32) ≤ nI q.1 from nI_le (a := 5) (b := q.1) (by omega) (by omega)), if_neg (show ¬ nI q.1 = 8 from fun z => by have := (nI_eq (a := q.1) (b := 8) (by omega) (by omega)).mp z; omega), pk_m1, nI_pred, if_pos (aIn_nI (by omega) (by omega)), if_pos (aIn_nI (by omega) (by omega)), nI_clamp (by omega), nI_clamp (by omega), hb, ha, nI_1]
          simp only [m_hold, Option.bind_some, if_pos (aIn_nI (show s.length < 760 by omega) (by omega))]
          rcases (show q.1 = 5 ∨ q.1 = 6 ∨ q.1 = 7 by omega) with z | z | z
          · rw [z, if_pos (by decide)]
            rfl
          · rw [z, if_neg (by decide), if_pos (by decide)]
            rfl
          · rw [z, if_neg (by decide), if_neg (by decide)]
            rfl
theorem m_clip (v : Int64) (κ : iS) : (if 0 ≤ (lg_cmp v (0 : Int64)) then if (lg_cmp v (99 : Int64)) ≤ 0 then some ((v).toInt32, κ) else some ((99 : Int32), κ) else some ((0 : Int32), κ)) = some (if v < 0 then 0 else if v ≤ 99 then v.toInt32 else 99, κ) := by
  by_cases h1 : v < 0
  · rw [if_neg (fun q => Int64.not_lt.mpr ((lg_cmp_ge _ _).mp q) h1), if_pos h1]
  · rw [if_pos ((lg_cmp_ge _ _).mpr (Int64.not_lt.mp h1)), if_neg h1]
    by_cases h2 : v ≤ 99
    · rw [if_pos ((lg_cmp_le _ _).mpr h2), if_pos h2]
    · rw [if_neg (fun q => h2 ((lg_cmp_le _ _).mp q)), if_neg h2]
theorem m_match_loop {ι : iS} {p T : Nat} {F : List (Nat × Nat)} (hp : p < 16) (hT : T ≤ 5) (hr : gI ι 112 0 = nI T) (hc : Coded (gI ι 112) T F) (g : Int32) : ∀ d t n, t + d = T → d < n → ∃ ι', l_X7_matchOf_5 n (nI p) g (rPlain (gI ι 112) p g t) (nI t) ι = some (mt (gI ι 112) T F p g, ι') ∧ JS ι ι' := by
  intro d
  induction d with
  | zero =>
    intro t n ht hn
    obtain ⟨n, rfl⟩ : ∃ m, n = m + 1 := ⟨n - 1, by omega⟩
    obtain rfl : t = T := by omega
    rw [l_X7_matchOf_5, hr, if_pos (Int32.le_refl _)]
    rcases hc with ⟨h8, rfl⟩ | ⟨h8, hne, hok, hh, hl, hA, hz⟩
    · refine ⟨ι, ?_, JS.rf ι⟩
      rw [h8, if_neg (by decide), m_clip]
      unfold mt
      rw [if_pos rfl]
    · obtain ⟨ι', e1, e2⟩ := m_formed (p := p) (T := t) hp hT g F 123 aF [] ι hok ⟨by omega, hA, hz⟩ hh (Nat.zero_le _) trivial (by
        have : F.length ≤ (enc7 F).length := by
          clear hne hok hh hl hA hz
          induction F with
          | nil => exact Nat.zero_le _
          | cons q F ih =>
            by_cases h4 : q.1 < 4
            · rw [enc7_leaf h4]; simp only [List.length_cons]; omega
            · rw [enc7_op h4]; simp only [List.length_cons]; omega
        unfold aF
        omega)
      refine ⟨ι', ?_, e2⟩
      rw [h8, if_pos rfl, show m_X7_formed (nI p) g ι = _ from e1, Option.bind_some]
      dsimp only
      rw [m_clip]
      unfold mt
      rw [if_neg hne]
      rfl
  | succ d ih =>
    intro t n ht hn
    obtain ⟨n, rfl⟩ : ∃ m, n = m + 1 := ⟨n - 1, by omega⟩
    obtain ⟨ι', e1, e2⟩ := ih (t + 1) n (by omega) (by omega)
    refine ⟨ι', ?_, e2⟩
    rw [l_X7_matchOf_5, hr, if_neg (nI_ge (by omega) (by omega)), show (94 : Int32) + nI t = nI (94 + t) from nI_add 94 t, if_pos (aIn_nI (by omega) (by omega)), m_off hp (by omega), Option.bind_some, nI_clamp (by omega), nI_1]
    exact e1
theorem m_match {ι : iS} {p T : Nat} {F : List (Nat × Nat)} (hp : p < 16) (hT : T ≤ 5) (hr : gI ι 112 0 = nI T) (hc : Coded (gI ι 112) T F) (g : Int32) : ∃ ι', m_X7_matchOf (nI p) g ι = some (mt (gI ι 112) T F p g, ι') ∧ JS ι ι' := m_match_loop hp hT hr hc g T 0 aF (by omega) (by unfold aF; omega)
