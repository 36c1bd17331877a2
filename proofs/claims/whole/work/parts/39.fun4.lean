theorem isE_of {t n : Int32} (h : ¬ fIsE t n = 0) : ¬ t < 1 ∧ ¬ n < t ∧ ¬ 8 < n := by
  unfold fIsE at h
  by_cases h1 : t < 1
  · rw [if_pos h1] at h; exact absurd rfl h
  · rw [if_neg h1] at h
    by_cases h2 : n < t
    · rw [if_pos h2] at h; exact absurd rfl h
    · rw [if_neg h2] at h
      by_cases h3 : 8 < n
      · rw [if_pos h3] at h; exact absurd rfl h
      · exact ⟨h1, h2, h3⟩
theorem isB_of {b : Int32} (h : ¬ fIsB b = 0) : ¬ b < 0 ∧ ¬ 255 < b := by
  unfold fIsB at h
  by_cases h1 : b < 0
  · rw [if_pos h1] at h; exact absurd rfl h
  · rw [if_neg h1] at h
    by_cases h2 : 255 < b
    · rw [if_pos h2] at h; exact absurd rfl h
    · exact ⟨h1, h2⟩
theorem isB_no {b : Int32} (h : fIsB b = 0) : b < 0 ∨ 255 < b := by
  unfold fIsB at h
  by_cases h1 : b < 0
  · exact Or.inl h1
  · rw [if_neg h1] at h
    by_cases h2 : 255 < b
    · exact Or.inr h2
    · rw [if_neg h2] at h; exact absurd h (by decide)
/-- four coins, paid one by one -/
def rtF (pu : Nat → Int32) (n : Nat) : Nat → Int32
  | 0 => 0
  | k + 1 => (rtF pu n k <<< ((8 : Int32) &&& 31)) ||| pyR pu n k 0
