/-! counting cases, in numbers alone -/
def prd (f : Nat → Nat) : Nat → Nat
  | 0 => 1
  | n + 1 => prd f n * f n
def sm (f : Nat → Nat) : Nat → Nat
  | 0 => 0
  | n + 1 => sm f n + f n
theorem prd_ext {f g : Nat → Nat} : ∀ n, (∀ k, k < n → f k = g k) → prd f n = prd g n := by
  intro n
  induction n with
  | zero => intro _; rfl
  | succ n ih =>
    intro h
    rw [prd, prd, ih (fun k hk => h k (by omega)), h n (by omega)]
theorem sm_ext {f g : Nat → Nat} : ∀ n, (∀ k, k < n → f k = g k) → sm f n = sm g n := by
  intro n
  induction n with
  | zero => intro _; rfl
  | succ n ih =>
    intro h
    rw [sm, sm, ih (fun k hk => h k (by omega)), h n (by omega)]
theorem sm_zero {f : Nat → Nat} : ∀ n, (∀ k, k < n → f k = 0) → sm f n = 0 := by
  intro n
  induction n with
  | zero => intro _; rfl
  | succ n ih =>
    intro h
    rw [sm, ih (fun k hk => h k (by omega)), h n (by omega)]
theorem sm_add {f g : Nat → Nat} : ∀ n, sm (fun k => f k + g k) n = sm f n + sm g n := by
  intro n
  induction n with
  | zero => rfl
  | succ n ih =>
    rw [sm, sm, sm, ih]
    omega
theorem sm_mul {f : Nat → Nat} (c : Nat) : ∀ n, sm (fun k => f k * c) n = sm f n * c := by
  intro n
  induction n with
  | zero => rw [sm, sm, Nat.zero_mul]
  | succ n ih => rw [sm, sm, ih, Nat.add_mul]
theorem sm_swap {f : Nat → Nat → Nat} (m : Nat) : ∀ n, sm (fun k => sm (fun i => f k i) m) n = sm (fun i => sm (fun k => f k i) n) m := by
  intro n
  induction n with
  | zero =>
    rw [sm]
    exact (sm_zero m (fun k _ => rfl)).symm
  | succ n ih =>
    rw [sm, ih, ← sm_add]
    exact sm_ext m (fun k _ => rfl)
/-- a window in a long sum -/
theorem sm_win {f : Nat → Nat} {a L : Nat} : ∀ U, a + L ≤ U → sm (fun u => if a ≤ u ∧ u < a + L then f u else 0) U = sm (fun i => f (a + i)) L := by
  have key : ∀ d, sm (fun u => if a ≤ u ∧ u < a + L then f u else 0) (a + d) = sm (fun i => if i < L then f (a + i) else 0) d := by
    intro d
    induction d with
    | zero => exact sm_zero a (fun k hk => if_neg (by omega))
    | succ d ih =>
      rw [show a + (d + 1) = a + d + 1 by omega, sm, sm, ih]
      by_cases h : d < L
      · rw [if_pos (by omega), if_pos h]
      · rw [if_neg (by omega), if_neg h]
  have key2 : ∀ d, sm (fun i => if i < L then f (a + i) else 0) (L + d) = sm (fun i => f (a + i)) L := by
    intro d
    induction d with
    | zero => exact sm_ext L (fun k hk => if_pos hk)
    | succ d ih => rw [show L + (d + 1) = L + d + 1 by omega, sm, ih, if_neg (by omega), Nat.add_zero]
  intro U hU
  rw [show U = a + (L + (U - (a + L))) by omega, key, key2]
def bl (m : Nat → Nat) (w u k : Nat) : Nat := min w (u - m k)
theorem bl_1 {m : Nat → Nat} {w u k : Nat} (hw : 0 < w) : bl m w (u + 1) k = bl m w u k + if m k ≤ u ∧ u < m k + w then 1 else 0 := by
  unfold bl
  by_cases h : m k ≤ u ∧ u < m k + w
  · rw [if_pos h]; omega
  · rw [if_neg h]; omega
theorem bl_le {m : Nat → Nat} {w u k : Nat} : bl m w u k ≤ w := Nat.min_le_left _ _
/-- one by one: the one at place k is picked -/
def obo (m : Nat → Nat) (w u S k : Nat) : Nat := prd (bl m w u) k * (w - bl m w u k) * w ^ (S - k - 1)
theorem obo_sum {m : Nat → Nat} {w u : Nat} : ∀ n, sm (fun k => obo m w u n k) n + prd (bl m w u) n = w ^ n := by
  intro n
  induction n with
  | zero => rfl
  | succ n ih =>
    rw [sm, prd]
    have e1 : sm (fun k => obo m w u (n + 1) k) n = sm (fun k => obo m w u n k) n * w := by
      rw [← sm_mul]
      refine sm_ext n (fun k hk => ?_)
      unfold obo
      rw [show n + 1 - k - 1 = (n - k - 1) + 1 by omega, Nat.pow_succ, Nat.mul_assoc, Nat.mul_assoc, Nat.mul_assoc]
    have e2 : obo m w u (n + 1) n = prd (bl m w u) n * (w - bl m w u n) := by
      unfold obo
      rw [show n + 1 - n - 1 = 0 by omega, Nat.pow_zero, Nat.mul_one]
    rw [e1, e2, Nat.pow_succ, ← ih, Nat.add_mul, Nat.add_assoc, ← Nat.mul_add, Nat.sub_add_cancel bl_le]
/-- all at once: k wins at u, of n -/
def gk (m : Nat → Nat) (w n k u : Nat) : Nat := prd (fun j => if j < k then bl m w u j else if k < j then bl m w (u + 1) j else 1) n
theorem gk_lt {m : Nat → Nat} {w n k u : Nat} (h : k < n) : gk m w (n + 1) k u = gk m w n k u * bl m w (u + 1) n := by
  unfold gk
  rw [prd, if_neg (by omega), if_pos h]
theorem gk_self {m : Nat → Nat} {w n u : Nat} : gk m w (n + 1) n u = prd (bl m w u) n := by
  unfold gk
  rw [prd, if_neg (by omega), if_neg (by omega), Nat.mul_one]
  exact prd_ext n (fun k hk => if_pos hk)
theorem gk_step {m : Nat → Nat} {w u : Nat} (hw : 0 < w) : ∀ n, prd (bl m w (u + 1)) n = prd (bl m w u) n + sm (fun k => if m k ≤ u ∧ u < m k + w then gk m w n k u else 0) n := by
  intro n
  induction n with
  | zero => rfl
  | succ n ih =>
    rw [prd, prd, sm]
    have e1 : sm (fun k => if m k ≤ u ∧ u < m k + w then gk m w (n + 1) k u else 0) n = sm (fun k => if m k ≤ u ∧ u < m k + w then gk m w n k u else 0) n * bl m w (u + 1) n := by
      rw [← sm_mul]
      refine sm_ext n (fun k hk => ?_)
      by_cases h : m k ≤ u ∧ u < m k + w
      · rw [if_pos h, if_pos h, gk_lt hk]
      · rw [if_neg h, if_neg h, Nat.zero_mul]
    rw [e1, gk_self, ih, Nat.add_mul, bl_1 hw]
    by_cases h : m n ≤ u ∧ u < m n + w
    · rw [if_pos h, if_pos h, Nat.mul_add, Nat.mul_one]; omega
    · rw [if_neg h, if_neg h, Nat.add_zero, Nat.add_zero]
def ao (m : Nat → Nat) (w c S k : Nat) : Nat := sm (fun i => if c ≤ m k + i then gk m w S k (m k + i) else 0) w
theorem prd_top {m : Nat → Nat} {w u : Nat} : ∀ n, (∀ k, k < n → m k + w ≤ u) → prd (bl m w u) n = w ^ n := by
  intro n
  induction n with
  | zero => intro _; rfl
  | succ n ih =>
    intro h
    rw [prd, ih (fun k hk => h k (by omega)), Nat.pow_succ]
    have := h n (by omega)
    unfold bl
    rw [Nat.min_eq_left (by omega)]
theorem prd_from {m : Nat → Nat} {w c n : Nat} (hw : 0 < w) : ∀ d, prd (bl m w (c + d)) n = prd (bl m w c) n + sm (fun u => if c ≤ u then sm (fun k => if m k ≤ u ∧ u < m k + w then gk m w n k u else 0) n else 0) (c + d) := by
  intro d
  induction d with
  | zero =>
    have e : sm (fun u => if c ≤ u then sm (fun k => if m k ≤ u ∧ u < m k + w then gk m w n k u else 0) n else 0) c = 0 := sm_zero c (fun k hk => if_neg (Nat.not_le.mpr hk))
    rw [Nat.add_zero, e]
    rfl
  | succ d ih =>
    rw [show c + (d + 1) = c + d + 1 by omega, gk_step hw, ih, sm, if_pos (by omega)]
    omega
theorem ao_sum {m : Nat → Nat} {w c S : Nat} (hw : 0 < w) : sm (fun k => ao m w c S k) S + prd (bl m w c) S = w ^ S := by
  obtain ⟨U, hU1, hU2⟩ : ∃ U, c ≤ U ∧ ∀ k, k < S → m k + w ≤ U := by
    have : ∀ S, ∃ U, c ≤ U ∧ ∀ k, k < S → m k + w ≤ U := by
      intro S
      induction S with
      | zero => exact ⟨c, Nat.le_refl _, fun k hk => by omega⟩
      | succ S ih =>
        obtain ⟨U, h1, h2⟩ := ih
        refine ⟨U + (m S + w), by omega, fun k hk => ?_⟩
        by_cases h : k = S
        · subst h; omega
        · have := h2 k (by omega); omega
    exact this S
  have e1 := prd_from (m := m) (w := w) (c := c) (n := S) hw (U - c)
  rw [show c + (U - c) = U by omega, prd_top S hU2] at e1
  rw [e1, Nat.add_comm]
  congr 1
  have e2 : ∀ k, k < S → ao m w c S k = sm (fun u => if c ≤ u then (if m k ≤ u ∧ u < m k + w then gk m w S k u else 0) else 0) U := by
    intro k hk
    unfold ao
    rw [← sm_win (f := fun u => if c ≤ u then gk m w S k u else 0) (a := m k) (L := w) U (hU2 k hk)]
    refine sm_ext U (fun u _ => ?_)
    by_cases h1 : c ≤ u
    · rw [if_pos h1, if_pos h1]
    · rw [if_neg h1, if_neg h1]
      by_cases h2 : m k ≤ u ∧ u < m k + w
      · rw [if_pos h2]
      · rw [if_neg h2]
  rw [sm_ext S e2, sm_swap]
  refine sm_ext U (fun u _ => ?_)
  by_cases h1 : c ≤ u
  · rw [if_pos h1]
    exact sm_ext S (fun k _ => if_pos h1)
  · rw [if_neg h1]
    exact sm_zero S (fun k _ => if_neg h1)
/-- as the reference counts one by one -/
theorem obo_ref {m : Nat → Nat} {w u k : Nat} : ∀ d, prd (fun j => if j < k then bl m w u j else if k < j then w else 1) (k + 1 + d) = prd (bl m w u) k * w ^ d := by
  intro d
  induction d with
  | zero =>
    rw [Nat.add_zero, prd, if_neg (by omega), if_neg (by omega), Nat.mul_one, Nat.pow_zero, Nat.mul_one]
    exact prd_ext k (fun j hj => if_pos hj)
  | succ d ih => rw [show k + 1 + (d + 1) = k + 1 + d + 1 by omega, prd, ih, if_neg (by omega), if_pos (by omega), Nat.pow_succ, Nat.mul_assoc]
theorem prd_le {f : Nat → Nat} {w : Nat} : ∀ n, (∀ k, k < n → f k ≤ w) → prd f n ≤ w ^ n := by
  intro n
  induction n with
  | zero => intro _; exact Nat.le_refl _
  | succ n ih =>
    intro h
    rw [prd, Nat.pow_succ]
    exact Nat.mul_le_mul (ih (fun k hk => h k (by omega))) (h n (by omega))
theorem sm_le {f : Nat → Nat} {k : Nat} : ∀ n, k < n → f k ≤ sm f n := by
  intro n
  induction n with
  | zero => intro h; omega
  | succ n ih =>
    intro h
    rw [sm]
    by_cases hk : k = n
    · subst hk; omega
    · have := ih (by omega); omega
theorem obo_le {m : Nat → Nat} {w u S k : Nat} (hk : k < S) : obo m w u S k ≤ w ^ S := by
  have := obo_sum (m := m) (w := w) (u := u) S
  have := sm_le (f := fun k => obo m w u S k) S hk
  omega
theorem ao_le {m : Nat → Nat} {w c S k : Nat} (hw : 0 < w) (hk : k < S) : ao m w c S k ≤ w ^ S := by
  have := ao_sum (m := m) (c := c) (S := S) hw
  have := sm_le (f := fun k => ao m w c S k) S hk
  omega
theorem pow_le {w S : Nat} (hw : w ≤ 11) (hS : S ≤ 8) : w ^ S ≤ 214358881 := by
  calc w ^ S ≤ 11 ^ S := Nat.pow_le_pow_left hw S
    _ ≤ 11 ^ 8 := Nat.pow_le_pow_right (by omega) hS
    _ = 214358881 := by decide
