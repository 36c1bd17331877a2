/-! The reference's way of putting points together, in place, is nwt. -/
def anS (X Y : Nat → Nat) (l : Nat) : Nat → Nat := fun j => if j < l then gm (Y j ^^^ Y l) (iv (X j ^^^ X l)) else Y j
def anO (X Y : Nat → Nat) (n : Nat) : Nat → Nat → Nat
  | 0 => Y
  | m + 1 => anS X (anO X Y n m) (n - 1 - m)
def anV (X Z : Nat → Nat) : Nat → Nat
  | 0 => Z 0
  | l + 1 => Z (l + 1) ^^^ gm (X (l + 1)) (anV X Z l)
theorem nwt_congr {X : Nat → Nat} : ∀ (l : Nat) {Y Z : Nat → Nat}, (∀ j, j ≤ l → Y j = Z j) → nwt X l Y = nwt X l Z
  | 0, _, _, h => h 0 (Nat.le_refl 0)
  | l + 1, Y, Z, h => by
    show Y (l + 1) ^^^ gm (X (l + 1)) (nwt X l _) = Z (l + 1) ^^^ gm (X (l + 1)) (nwt X l _)
    rw [h (l + 1) (Nat.le_refl _)]
    congr 2
    exact nwt_congr l (fun j hj => by rw [h j (by omega)])
theorem anO_keep {X Y : Nat → Nat} {n m j : Nat} (h : n - 1 - m ≤ j) : ∀ d, anO X Y n (m + d) j = anO X Y n m j
  | 0 => rfl
  | d + 1 => by
    show (if j < n - 1 - (m + d) then _ else anO X Y n (m + d) j) = _
    rw [if_neg (by omega), anO_keep h d]
theorem an_ok {X Y : Nat → Nat} {n : Nat} : ∀ l, l < n → anV X (anO X Y n (n - 1)) l = nwt X l (anO X Y n (n - 1 - l))
  | 0, _ => rfl
  | l + 1, h => by
    have ih := an_ok (X := X) (Y := Y) (n := n) l (by omega)
    show anO X Y n (n - 1) (l + 1) ^^^ gm (X (l + 1)) (anV X _ l) = anO X Y n (n - 1 - (l + 1)) (l + 1) ^^^ gm (X (l + 1)) (nwt X l _)
    rw [ih]
    have e1 : anO X Y n (n - 1) (l + 1) = anO X Y n (n - 1 - (l + 1)) (l + 1) := by
      have := anO_keep (X := X) (Y := Y) (n := n) (m := n - 1 - (l + 1)) (j := l + 1) (by omega) (l + 1)
      rwa [show n - 1 - (l + 1) + (l + 1) = n - 1 by omega] at this
    rw [e1]
    congr 2
    apply nwt_congr
    intro j hj
    rw [show n - 1 - l = (n - 1 - (l + 1)) + 1 by omega]
    show (if j < n - 1 - (n - 1 - (l + 1)) then _ else _) = _
    rw [show n - 1 - (n - 1 - (l + 1)) = l + 1 by omega, if_pos (by omega)]
theorem an_all {X Y : Nat → Nat} {n : Nat} (hn : 0 < n) : anV X (anO X Y n (n - 1)) (n - 1) = nwt X (n - 1) Y := by
  have h := an_ok (X := X) (Y := Y) (n := n) (n - 1) (by omega)
  rwa [Nat.sub_self] at h
/-- bytes stay bytes -/
theorem anO_lt {X Y : Nat → Nat} {n : Nat} (hY : ∀ j, j < n → Y j < 256) : ∀ m, m < n → ∀ j, j < n → anO X Y n m j < 256
  | 0, _, j, hj => hY j hj
  | m + 1, hm, j, hj => by
    have ih := anO_lt (X := X) hY m (by omega)
    show (if j < n - 1 - m then _ else anO X Y n m j) < 256
    split
    · exact gm_lt (xor_lt (ih j hj) (ih (n - 1 - m) (by omega))) (iv_lt _)
    · exact ih j hj
