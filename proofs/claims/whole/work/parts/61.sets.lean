/-! sets of fillers as numbers; which is the fairest -/
def bit (p t : Nat) : Nat := t / 2 ^ p % 2
theorem sm_head {f : Nat → Nat} : ∀ n, sm f (n + 1) = f 0 + sm (fun i => f (i + 1)) n := by
  intro n
  induction n with
  | zero => rw [sm, sm, sm]; omega
  | succ n ih => rw [sm, ih, sm]; omega
theorem bit_lt (p t : Nat) : bit p t < 2 := Nat.mod_lt _ (by omega)
/-- t has set below from, is below 2^P, and so many more from there on -/
def Kd (P fr' left set t : Nat) : Prop := t % 2 ^ fr' = set ∧ t < 2 ^ P ∧ sm (fun i => bit (fr' + i) t) (P - fr') = left
theorem bit_0 {p t : Nat} (h : t < 2 ^ p) : bit p t = 0 := by
  unfold bit
  rw [Nat.div_eq_of_lt h]
theorem mod_bits {a t : Nat} : ∀ d, sm (fun i => bit (a + i) t) d = 0 → t % 2 ^ (a + d) = t % 2 ^ a := by
  intro d
  induction d with
  | zero => intro _; rfl
  | succ d ih =>
    intro h
    rw [sm] at h
    have h1 : bit (a + d) t = 0 := by omega
    rw [show a + (d + 1) = a + d + 1 by omega, Nat.mod_pow_succ, ih (by omega)]
    have : t / 2 ^ (a + d) % 2 = 0 := h1
    rw [this]
    omega
theorem Kd_0 {P a set t : Nat} (ha : a ≤ P) (hs : set < 2 ^ a) : Kd P a 0 set t ↔ t = set := by
  constructor
  · rintro ⟨h1, h2, h3⟩
    have := mod_bits (a := a) (t := t) (P - a) h3
    rw [show a + (P - a) = P by omega, Nat.mod_eq_of_lt h2] at this
    rw [this, h1]
  · rintro rfl
    refine ⟨Nat.mod_eq_of_lt hs, Nat.lt_of_lt_of_le hs (Nat.pow_le_pow_right (by omega) ha), sm_zero _ (fun k _ => bit_0 (Nat.lt_of_lt_of_le hs (Nat.pow_le_pow_right (by omega) (by omega))))⟩
theorem Kd_s {P a left set t : Nat} (ha : a < P) (hs : set < 2 ^ a) : Kd P a (left + 1) set t ↔ Kd P (a + 1) left (set + 2 ^ a) t ∨ Kd P (a + 1) (left + 1) set t := by
  unfold Kd
  have e1 : sm (fun i => bit (a + i) t) (P - a) = bit a t + sm (fun i => bit (a + 1 + i) t) (P - (a + 1)) := by
    rw [show P - a = P - (a + 1) + 1 by omega, sm_head]
    congr 1
    exact sm_ext _ (fun k _ => by rw [show a + (k + 1) = a + 1 + k by omega])
  have e2 : t % 2 ^ (a + 1) = t % 2 ^ a + 2 ^ a * bit a t := Nat.mod_pow_succ
  have e3 : t % 2 ^ a < 2 ^ a := Nat.mod_lt _ (Nat.two_pow_pos a)
  rw [e1, e2]
  have hb := bit_lt a t
  rcases (show bit a t = 0 ∨ bit a t = 1 by omega) with h | h
  · rw [h]
    constructor
    · rintro ⟨h1, h2, h3⟩
      exact Or.inr ⟨by omega, h2, by omega⟩
    · rintro (⟨h1, h2, h3⟩ | ⟨h1, h2, h3⟩)
      · omega
      · exact ⟨by omega, h2, by omega⟩
  · rw [h]
    constructor
    · rintro ⟨h1, h2, h3⟩
      exact Or.inl ⟨by omega, h2, by omega⟩
    · rintro (⟨h1, h2, h3⟩ | ⟨h1, h2, h3⟩)
      · exact ⟨by omega, h2, by omega⟩
      · omega
theorem Kd_n {P a left set t : Nat} (h : P < a + left) (hl : 0 < left) : ¬ Kd P a left set t := by
  rintro ⟨-, -, h3⟩
  have := sm_bd (f := fun i => bit (a + i) t) (B := 1) (P - a) (fun k _ => by have := bit_lt (a + k) t; omega)
  omega
def tot (f : Nat → Nat) (P t : Nat) : Nat := f 0 + sm (fun i => bit (i + 1) t * f (i + 1)) (P - 1)
theorem bit_add {a s p : Nat} (hs : s < 2 ^ a) : bit p (s + 2 ^ a) = bit p s + if p = a then 1 else 0 := by
  unfold bit
  rcases Nat.lt_trichotomy p a with h | h | h
  · rw [if_neg (by omega), show 2 ^ a = 2 ^ p * (2 * 2 ^ (a - p - 1)) by
      rw [← Nat.mul_assoc, ← Nat.pow_succ, ← Nat.pow_add, show p + 1 + (a - p - 1) = a by omega], Nat.add_mul_div_left _ _ (Nat.two_pow_pos p), Nat.add_mul_mod_self_left]
    rfl
  · subst h
    rw [if_pos rfl, Nat.add_div_right _ (Nat.two_pow_pos p), Nat.div_eq_of_lt hs]
  · have h2 : 2 ^ (a + 1) ≤ 2 ^ p := Nat.pow_le_pow_right (by omega) (by omega)
    rw [Nat.pow_succ] at h2
    rw [if_neg (by omega), Nat.div_eq_of_lt (by omega), Nat.div_eq_of_lt (by omega)]
theorem tot_add {f : Nat → Nat} {P a s : Nat} (hs : s < 2 ^ a) (h1 : 1 ≤ a) (h2 : a < P) : tot f P (s + 2 ^ a) = tot f P s + f a := by
  unfold tot
  have e : sm (fun i => bit (i + 1) (s + 2 ^ a) * f (i + 1)) (P - 1) = sm (fun i => bit (i + 1) s * f (i + 1)) (P - 1) + sm (fun i => if i + 1 = a then f (i + 1) else 0) (P - 1) := by
    rw [← sm_add]
    refine sm_ext _ (fun k _ => ?_)
    rw [bit_add hs, Nat.add_mul]
    by_cases h : k + 1 = a
    · rw [if_pos h, if_pos h, Nat.one_mul]
    · rw [if_neg h, if_neg h, Nat.zero_mul]
  rw [e, sm_one (i := a - 1) (P - 1) (by omega) (fun k _ hk => if_neg (by omega)), if_pos (by omega), show a - 1 + 1 = a by omega]
  omega
theorem tot_0 {f : Nat → Nat} {P : Nat} : tot f P 0 = f 0 := by
  unfold tot
  rw [sm_zero _ (fun k _ => by unfold bit; rw [Nat.zero_div]; exact Nat.zero_mul _)]
  rfl
theorem tot_le {f : Nat → Nat} {P t B : Nat} (hP : 1 ≤ P) (hf : ∀ k, k < P → f k ≤ B) : tot f P t ≤ P * B := by
  unfold tot
  have h1 := sm_bd (f := fun i => bit (i + 1) t * f (i + 1)) (B := B) (P - 1) (fun k hk => by
    have hb := bit_lt (k + 1) t
    have := hf (k + 1) (by omega)
    calc bit (k + 1) t * f (k + 1) ≤ 1 * B := Nat.mul_le_mul (by omega) this
      _ = B := Nat.one_mul B)
  have h2 := hf 0 (by omega)
  have h3 : P * B = (P - 1) * B + B := by
    obtain ⟨q, rfl⟩ : ∃ q, P = q + 1 := ⟨P - 1, by omega⟩
    rw [Nat.succ_mul]
    rfl
  omega
/-- s is fairer than t: its size is greater, or as great and it is less -/
def bt (A B : Nat → Nat) (s t : Nat) : Prop := A t * B s < A s * B t ∨ (A t * B s = A s * B t ∧ s < t)
theorem bt_tr {A B : Nat → Nat} (hB : ∀ t, 0 < B t) {t s u : Nat} (h1 : bt A B t s) (h2 : bt A B s u) : bt A B t u := by
  have p1 : A s * B t ≤ A t * B s := by rcases h1 with h | h <;> omega
  have p2 : A u * B s ≤ A s * B u := by rcases h2 with h | h <;> omega
  have q1 : A u * B s * B t ≤ A s * B u * B t := Nat.mul_le_mul_right _ p2
  have q2 : A s * B t * B u ≤ A t * B s * B u := Nat.mul_le_mul_right _ p1
  have e1 : A s * B u * B t = A s * B t * B u := Nat.mul_right_comm _ _ _
  have e2 : A u * B s * B t = A u * B t * B s := Nat.mul_right_comm _ _ _
  have e3 : A t * B s * B u = A t * B u * B s := Nat.mul_right_comm _ _ _
  have h3 : A u * B t ≤ A t * B u := Nat.le_of_mul_le_mul_right (by omega) (hB s)
  rcases Nat.lt_or_ge (A u * B t) (A t * B u) with h | h
  · exact Or.inl h
  · have h4 : A u * B t = A t * B u := by omega
    have w0 : A u * B t * B s = A t * B u * B s := by rw [h4]
    have w1 : A s * B u * B t = A t * B s * B u := by omega
    have w2 : A s * B t = A t * B s := Nat.eq_of_mul_eq_mul_right (hB u) (by rw [← e1]; exact w1)
    have w3 : A u * B s = A s * B u := Nat.eq_of_mul_eq_mul_right (hB t) (by rw [e2, h4, ← e3]; exact w1.symm)
    refine Or.inr ⟨h4, ?_⟩
    rcases h1 with h | ⟨-, h⟩
    · omega
    · rcases h2 with h' | ⟨-, h'⟩
      · omega
      · omega
theorem bt_tot {A B : Nat → Nat} {s t : Nat} (h : ¬ bt A B t s) : t = s ∨ bt A B s t := by
  unfold bt at *
  rcases Nat.lt_trichotomy (A t * B s) (A s * B t) with q | q | q
  · exact Or.inr (Or.inl q)
  · rcases Nat.lt_trichotomy s t with z | z | z
    · exact Or.inr (Or.inr ⟨q, z⟩)
    · exact Or.inl z.symm
    · exact absurd (Or.inr ⟨q.symm, z⟩) h
  · exact absurd (Or.inl q) h
theorem bt_ir {A B : Nat → Nat} {s : Nat} : ¬ bt A B s s := fun h => by
  rcases h with h | ⟨-, h⟩ <;> omega
/-- s is the fairest of X -/
def fst' (A B : Nat → Nat) (X : Nat → Prop) (s : Nat) : Prop := X s ∧ ∀ t, X t → t = s ∨ bt A B s t
theorem fst_un {A B : Nat → Nat} (hB : ∀ t, 0 < B t) {X : Nat → Prop} {s t : Nat} (h1 : fst' A B X s) (h2 : fst' A B X t) : s = t := by
  rcases h1.2 t h2.1 with h | h
  · exact h.symm
  · rcases h2.2 s h1.1 with h' | h'
    · exact h'
    · exact absurd (bt_tr hB h h') bt_ir
theorem fst_new {A B : Nat → Nat} (hB : ∀ t, 0 < B t) {X Y : Nat → Prop} {s t : Nat} (h : fst' A B X s) (hY : ∀ u, Y u ↔ X u ∨ u = t) (hb : bt A B t s) : fst' A B Y t := by
  refine ⟨(hY t).mpr (Or.inr rfl), fun u hu => ?_⟩
  rcases (hY u).mp hu with q | q
  · rcases h.2 u q with z | z
    · rw [z]; exact Or.inr hb
    · exact Or.inr (bt_tr hB hb z)
  · exact Or.inl q
theorem fst_old {A B : Nat → Nat} {X Y : Nat → Prop} {s t : Nat} (h : fst' A B X s) (hY : ∀ u, Y u ↔ X u ∨ u = t) (hb : ¬ bt A B t s) : fst' A B Y s := by
  refine ⟨(hY s).mpr (Or.inl h.1), fun u hu => ?_⟩
  rcases (hY u).mp hu with q | q
  · exact h.2 u q
  · rw [q]; exact bt_tot hb
theorem fst_iff {A B : Nat → Nat} {X Y : Nat → Prop} {s : Nat} (hY : ∀ u, Y u ↔ X u) (h : fst' A B X s) : fst' A B Y s := ⟨(hY s).mpr h.1, fun u hu => h.2 u ((hY u).mp hu)⟩
