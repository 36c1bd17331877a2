/-! The coins: a ring, and a row that is moved up. -/
def pyF (purse : Nat → Int32) : Nat → Nat → Int32
  | 0 => purse
  | k + 1 => upd (pyF purse k) k (pyF purse k (k + 1))
theorem pyF_at (purse : Nat → Int32) : ∀ k j, pyF purse k j = if j < k then purse (j + 1) else purse j
  | 0, j => by rw [if_neg (by omega)]; rfl
  | k + 1, j => by
    show upd (pyF purse k) k (pyF purse k (k + 1)) j = _
    by_cases h : j = k
    · subst h
      rw [pk_us, pyF_at purse j (j + 1), if_neg (by omega), if_pos (by omega)]
    · rw [pk_un h, pyF_at purse k j]
      by_cases h2 : j < k
      · rw [if_pos h2, if_pos (by omega)]
      · rw [if_neg h2, if_neg (by omega)]
def Rcoin (ring purse : Nat → Int32) (f n : Nat) : Prop := f < 64 ∧ n ≤ 64 ∧ (∀ k, k < n → purse k = ring ((f + k) % 64)) ∧ ∀ k, k < n → ∃ b, b < 256 ∧ purse k = nI b
theorem Rcoin_put {ring purse : Nat → Int32} {f n b : Nat} (h : Rcoin ring purse f n) (hn : n < 64) (hb : b < 256) : Rcoin (upd ring ((f + n) % 64) (nI b)) (upd purse n (nI b)) f (n + 1) := by
  obtain ⟨h1, h2, h3, h4⟩ := h
  refine ⟨h1, hn, fun k hk => ?_, fun k hk => ?_⟩
  · by_cases e : k = n
    · subst e; rw [pk_us, pk_us]
    · rw [pk_un e, pk_un (by omega)]
      exact h3 k (by omega)
  · by_cases e : k = n
    · subst e; rw [pk_us]; exact ⟨b, hb, rfl⟩
    · rw [pk_un e]; exact h4 k (by omega)
theorem Rcoin_take {ring purse : Nat → Int32} {f n : Nat} (h : Rcoin ring purse f (n + 1)) : ring f = purse 0 ∧ Rcoin (upd ring f 0) (pyF purse n) ((f + 1) % 64) n := by
  obtain ⟨h1, h2, h3, h4⟩ := h
  refine ⟨?_, Nat.mod_lt _ (by decide), by omega, fun k hk => ?_, fun k hk => ?_⟩
  · rw [h3 0 (by omega), Nat.add_zero, Nat.mod_eq_of_lt h1]
  · rw [pyF_at, if_pos hk, h3 (k + 1) (by omega), pk_un (by omega)]
    congr 1
    omega
  · rw [pyF_at, if_pos hk]
    exact h4 (k + 1) (by omega)
/-- coin after coin -/
def tkR (ring : Nat → Int32) (f : Nat) : Nat → Nat → Int32
  | 0 => ring
  | k + 1 => upd (tkR ring f k) ((f + k) % 64) 0
def pyR (purse : Nat → Int32) (n : Nat) : Nat → Nat → Int32
  | 0 => purse
  | k + 1 => pyF (pyR purse n k) (n - 1 - k)
theorem Rcoin_takes {ring purse : Nat → Int32} {f n : Nat} (h : Rcoin ring purse f n) : ∀ k, k ≤ n → Rcoin (tkR ring f k) (pyR purse n k) ((f + k) % 64) (n - k)
  | 0, _ => by
    rw [Nat.add_zero, Nat.mod_eq_of_lt h.1, Nat.sub_zero]
    exact h
  | k + 1, hk => by
    have ih := Rcoin_takes h k (by omega)
    rw [show n - k = (n - 1 - k) + 1 by omega] at ih
    have h2 := (Rcoin_take ih).2
    rw [show ((f + k) % 64 + 1) % 64 = (f + (k + 1)) % 64 by omega, show n - 1 - k = n - (k + 1) by omega] at h2
    rw [show n - (k + 1) = n - 1 - k by omega] at h2 ⊢
    exact h2
theorem Rcoin_val {ring purse : Nat → Int32} {f n : Nat} (h : Rcoin ring purse f n) (k : Nat) (hk : k < n) : tkR ring f k ((f + k) % 64) = pyR purse n k 0 := by
  have ih := Rcoin_takes h k (by omega)
  rw [show n - k = (n - 1 - k) + 1 by omega] at ih
  exact (Rcoin_take ih).1
theorem Rcoin_byte {ring purse : Nat → Int32} {f n : Nat} (h : Rcoin ring purse f n) (k : Nat) (hk : k < n) : ∃ b, b < 256 ∧ pyR purse n k 0 = nI b := by
  have ih := Rcoin_takes h k (by omega)
  exact ih.2.2.2 0 (by omega)
