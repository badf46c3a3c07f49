theorem s_X7 (ι : iS) (hz : ∀ i, gI ι 109 i = 0) : ∃ ι', mi_X7 ι = some ι' ∧ (∀ y i, y < 109 → gI ι' y i = gI ι y i) ∧ gI ι' 109 2 = 0 ∧ gI ι' 109 5 = -1 ∧ gI ι' 109 12 = 0 ∧ (∀ k, gI ι' 110 k = 0) ∧ (gI ι' 112 0 = 1 ∧ gI ι' 112 2 = 1 ∧ gI ι' 112 9 = 5 ∧ gI ι' 112 89 = 5 ∧ gI ι' 112 94 = 3 ∧ gI ι' 112 3 = 1) ∧ ∀ k, k < 883 → k ≠ 0 → k ≠ 2 → k ≠ 9 → k ≠ 89 → k ≠ 94 → k ≠ 3 → gI ι' 112 k = row0 k := by
  obtain ⟨κ, hκ⟩ : ∃ κ, κ = zR (zR (zM (zR (zR (zR (pI (zR ι 110) 109 5 (-1 : Int32)) 111) 112) 113)) 123) 124 := ⟨_, rfl⟩
  obtain ⟨κ1, e1, e2, e3, -, -⟩ := m_begins (x := 112) κ
  have gM : ∀ (κ : iS) y i, y < 115 → gI (zM κ) y i = gI κ y i := fun κ y i q => by
    show (if 115 ≤ y ∧ y < 123 then fun _ => 0 else gI κ y) i = _
    rw [if_neg (by omega)]
  have g : ∀ y i, y < 111 → gI κ y i = gI (pI (zR ι 110) 109 5 (-1 : Int32)) y i := fun y i q => by
    rw [hκ, gI_z2 _ _ (by omega), gI_z2 _ _ (by omega), gM _ _ _ (by omega), gI_z2 _ _ (by omega), gI_z2 _ _ (by omega), gI_z2 _ _ (by omega)]
  obtain ⟨ι', hι'⟩ : ∃ ι', ι' = pI (pI (pI (pI (pI (pI κ1 112 0 (1 : Int32)) 112 2 (1 : Int32)) 112 9 (5 : Int32)) 112 89 (5 : Int32)) 112 94 (3 : Int32)) 112 3 (1 : Int32) := ⟨_, rfl⟩
  have gy : ∀ y i, y ≠ 112 → gI ι' y i = gI κ y i := fun y i q => by
    rw [hι', gI_p2 _ _ (by omega), gI_p2 _ _ (by omega), gI_p2 _ _ (by omega), gI_p2 _ _ (by omega), gI_p2 _ _ (by omega), gI_p2 _ _ (by omega), e3 y i q]
  refine ⟨ι', ?_, fun y i q => ?_, ?_, ?_, ?_, fun k => ?_, ⟨?_, ?_, ?_, ?_, ?_, ?_⟩, fun k h0 h1 h2 h3 h4 h5 h6 => ?_⟩
  · unfold mi_X7
    rw [← hκ, e1, Option.bind_some, hι']
  · rw [gy _ _ (by omega), g _ _ (by omega), gI_p2 _ _ (by omega), gI_z2 _ _ (by omega)]
  · rw [gy _ _ (by omega), g _ _ (by omega), gI_p2 _ _ (by omega), gI_z2 _ _ (by omega)]; exact hz 2
  · rw [gy _ _ (by omega), g _ _ (by omega), gI_p1]
  · rw [gy _ _ (by omega), g _ _ (by omega), gI_p2 _ _ (by omega), gI_z2 _ _ (by omega)]; exact hz 12
  · rw [gy _ _ (by omega), g _ _ (by omega), gI_p2 _ _ (by omega), gI_z1]
  · rw [hι', gI_p2 _ _ (by omega), gI_p2 _ _ (by omega), gI_p2 _ _ (by omega), gI_p2 _ _ (by omega), gI_p2 _ _ (by omega), gI_p1]
  · rw [hι', gI_p2 _ _ (by omega), gI_p2 _ _ (by omega), gI_p2 _ _ (by omega), gI_p2 _ _ (by omega), gI_p1]
  · rw [hι', gI_p2 _ _ (by omega), gI_p2 _ _ (by omega), gI_p2 _ _ (by omega), gI_p1]
  · rw [hι', gI_p2 _ _ (by omega), gI_p2 _ _ (by omega), gI_p1]
  · rw [hι', gI_p2 _ _ (by omega), gI_p1]
  · rw [hι', gI_p1]
  · rw [hι', gI_p2 _ _ (by omega), gI_p2 _ _ (by omega), gI_p2 _ _ (by omega), gI_p2 _ _ (by omega), gI_p2 _ _ (by omega), gI_p2 _ _ (by omega), e2 k h0]
theorem row0_z {k : Nat} (h : ¬ (4 ≤ k ∧ k ≤ 7)) (h2 : ¬ (89 ≤ k ∧ k < 94)) : row0 k = 0 := by
  unfold row0
  rw [if_neg (by omega), if_neg (by omega), if_neg (by omega), if_neg (by omega), if_neg (by omega)]
theorem start_ok : ∃ ι, startM = some ι ∧ Inv (fixP ι) := by
  obtain ⟨ι1, a1, x1, x5, x6, x30, ⟨o1, o2, o3, o4, o5, o6⟩, y1, y2, y3, y4, y5, y6, y7⟩ := s_X6 (zR zS 0)
  obtain ⟨ι2, b1, fr, w2, w5, w12, w110, ⟨r0, r2, r9, r89, r94, r3⟩, rr⟩ := s_X7 (zR ι1 109) (fun i => gI_z1 _ _ _)
  have f : ∀ y i, y < 109 → gI (fixP (zR ι2 125)) y i = gI ι1 y i := fun y i q => by
    show gI (zR ι2 125) y i = _
    rw [gI_z2 _ _ (by omega), fr y i q, gI_z2 _ _ (by omega)]
  have fm : ∀ y i, y < 125 → gI (fixP (zR ι2 125)) y i = gI ι2 y i := fun y i q => by
    show gI (zR ι2 125) y i = _
    rw [gI_z2 _ _ (by omega)]
  refine ⟨zR ι2 125, ?_, ⟨1, 1, 1, [], ⟨⟨⟨by omega, by omega⟩, ⟨by omega, by omega⟩, by omega⟩, ⟨⟨?_, ?_⟩, ⟨?_, ?_⟩, ⟨?_, ?_⟩⟩, fun i hi => ?_, fun p hp t ht => ?_, fun t ht => ?_, fun k hk => ?_, fun k l hk hl _ => by omega, fun p hp => ?_⟩, Or.inl ⟨?_, rfl⟩, fun p hp => ?_⟩, ⟨0, by omega, ?_, ?_, fun k hk => by omega⟩, ⟨⟨fun k hk => ⟨k, hk, ?_⟩, fun k l hk hl e => ?_⟩, 0, by omega, ?_, ?_, fun k hk => by omega⟩, ?_, fun k hk => ?_⟩
  · unfold startM
    rw [a1, Option.bind_some, b1, Option.bind_some]
  · rw [blk_at _ _ _ _ (by omega), f _ _ (by omega)]; exact o2
  · rw [fm _ _ (by omega)]; exact r0
  · rw [blk_at _ _ _ _ (by omega), f _ _ (by omega)]; exact o3
  · rw [fm _ _ (by omega), rr 1 (by omega) (by omega) (by omega) (by omega) (by omega) (by omega) (by omega)]; rfl
  · rw [blk_at _ _ _ _ (by omega), f _ _ (by omega)]; exact y1
  · rw [fm _ _ (by omega)]; exact r3
  · obtain ⟨e1, m, -, e2, e3, e4⟩ := row0_set i hi
    rw [blk_at _ _ _ _ (by omega), f _ _ (by omega), fm _ _ (by omega), rr _ (by omega) (by omega) (by omega) (by omega) (by omega) (by omega) (by omega)]
    exact ⟨(y6 i hi).trans e1, m, e2, e3, e4⟩
  · obtain rfl : p = 0 := by omega
    obtain rfl : t = 0 := by omega
    rw [blk_at _ _ _ _ (by omega), f _ _ (by omega), fm _ _ (by omega)]
    exact ⟨o4.trans r9.symm, 5, r9, by omega⟩
  · rw [blk_at _ _ _ _ (by omega), blk_at _ _ _ _ (by omega), f (2 + 2) t (by omega), f (2 + 3) t (by omega), fm 112 (89 + t) (by omega), fm 112 (94 + t) (by omega)]
    by_cases z : t = 0
    · subst z
      exact ⟨o5.trans r89.symm, o6.trans r94.symm, Or.inr ⟨5, 3, r89, by omega, r94, by omega, by omega⟩⟩
    · have e1 : row0 (89 + t) = -1 := by unfold row0; rw [if_neg (by omega), if_neg (by omega), if_neg (by omega), if_neg (by omega), if_pos (by omega)]
      rw [rr (89 + t) (by omega) (by omega) (by omega) (by omega) (by omega) (by omega) (by omega), rr (94 + t) (by omega) (by omega) (by omega) (by omega) (by omega) (by omega) (by omega), e1, row0_z (by omega) (by omega)]
      exact ⟨(y5 t (by omega) ht).1, (y5 t (by omega) ht).2, Or.inl ⟨rfl, rfl⟩⟩
  · obtain rfl : k = 0 := by omega
    rw [blk_at _ _ _ _ (by omega), f _ _ (by omega), fm _ _ (by omega), rr _ (by omega) (by omega) (by omega) (by omega) (by omega) (by omega) (by omega), row0_z (by omega) (by omega)]
    exact ⟨y2, 0, rfl, by omega⟩
  · rw [blk_at _ _ _ _ (by omega), f _ _ (by omega), fm _ _ (by omega), rr _ (by omega) (by omega) (by omega) (by omega) (by omega) (by omega) (by omega), row0_z (by omega) (by omega)]
    exact ⟨y7 p hp, 0, rfl, by omega, fun _ => rfl⟩
  · rw [fm _ _ (by omega), rr _ (by omega) (by omega) (by omega) (by omega) (by omega) (by omega) (by omega), row0_z (by omega) (by omega)]
  · obtain rfl : p = 0 := by omega
    have hm : ∀ g, mt (gI (fixP (zR ι2 125)) 112) 1 [] 0 g = 27 := fun g => by
      have ho : rOff (gI (fixP (zR ι2 125)) 112) 0 0 g = 0 := by
        unfold rOff
        rw [fm 112 (89 + 0) (by omega), fm 112 (9 + 5 * 0 + 0) (by omega), show gI ι2 112 (89 + 0) = 5 from r89, show gI ι2 112 (9 + 5 * 0 + 0) = 5 from r9]
        by_cases z : g = 0
        · rw [if_pos z]; decide
        · rw [if_neg z]; decide
      have hp : rPlain (gI (fixP (zR ι2 125)) 112) 0 g 1 = 27 := by
        rw [rPlain, rPlain, ho, fm 112 (94 + 0) (by omega), show gI ι2 112 (94 + 0) = 3 from r94]
        decide
      unfold mt
      rw [if_pos rfl, hp]
      decide
    rw [hm, hm, blk_at _ _ _ _ (by omega), blk_at _ _ _ _ (by omega), f _ _ (by omega), f _ _ (by omega)]
    exact ⟨y3, y4⟩
  · rw [f _ _ (by omega)]; exact x1
  · rw [fm _ _ (by omega)]; exact w2
  · show aP1 29 k = _
    unfold aP1
    rw [if_neg (by omega), if_pos ⟨rfl, hk⟩]
  · have e : aP1 29 k = aP1 29 l := e
    unfold aP1 at e
    rw [if_neg (by omega), if_pos ⟨rfl, hk⟩, if_neg (by omega), if_pos ⟨rfl, hl⟩] at e
    have := Option.some.inj e
    omega
  · rw [f _ _ (by omega)]; exact x5
  · rw [fm _ _ (by omega)]; exact w12
  · rw [f _ _ (by omega), fm _ _ (by omega), x6, w5]
  · rw [f _ _ (by omega), fm _ _ (by omega), x30, w110]
theorem whole_start (l : Launch) (hflags : l.flags = flags0) {p : Program} {e : Env} {s : State} {m : MethodId} {below : List Frame} {meth : Method} {c : Code} {b L : Nat} {xs : Nat → Int32} (hL : L ≤ 3072) (C0 : lw_At p s m meth c b L xs) :
    W p l e room_1 s m #[Value.ref b] below meth c s.heap [] 0 0 (lw_Z below #[Value.ref b] s) (entryFrame m ([Value.ref b] : List Value).toArray 8) :=
  whole_of l hflags hL C0 law_ok start_ok
