/-! The class's product is the field's. -/
def gS (a b : Nat) : Nat → Nat
  | 0 => 0
  | k + 1 => gS a b k ^^^ (b / 2 ^ k % 2 * xtn k a)
theorem gm_gS (a b : Nat) : gm a b = gS a b 8 := by
  have h : b / 2 ^ 0 % 2 * a = b % 2 * a := by rw [Nat.pow_zero, Nat.div_one]
  show gm a b = (((((((0 ^^^ (b / 2 ^ 0 % 2 * a)) ^^^ (b / 2 % 2 * xt a)) ^^^ (b / 4 % 2 * xt (xt a))) ^^^ (b / 8 % 2 * xt (xt (xt a)))) ^^^ (b / 16 % 2 * xt (xt (xt (xt a))))) ^^^ (b / 32 % 2 * xt (xt (xt (xt (xt a)))))) ^^^ (b / 64 % 2 * xt (xt (xt (xt (xt (xt a))))))) ^^^ (b / 128 % 2 * xt (xt (xt (xt (xt (xt (xt a)))))))
  rw [Nat.zero_xor, h]
  rfl
theorem xt_ok : ∀ a, a < 256 → xt a < 256 ∧ xt a = (if 2 * a ≤ 255 then 2 * a else 2 * a ^^^ 283) := by decide +kernel
theorem xtn_lt {a : Nat} (h : a < 256) : ∀ k, xtn k a < 256
  | 0 => h
  | k + 1 => (xt_ok _ (xtn_lt h k)).1
theorem prF_gm {a b : Nat} (ha : a < 256) (hb : b < 256) : ∀ k, k ≤ 8 → prF (nI a) (nI b) k = (nI (gS a b k), nI (xtn k a))
  | 0, _ => rfl
  | k + 1, hk => by
    have ih := prF_gm ha hb k (by omega)
    have hu : xtn k a < 256 := xtn_lt ha k
    have hd := Nat.div_le_self b (2 ^ k)
    have e1 : (nI b >>> (nI k &&& 31)) &&& 1 = nI (b / 2 ^ k % 2) := by
      rw [pk_shrN (by omega) _ k (s_l k (by omega)), pk_andN (by omega) 1 (by decide)]
    have e2 : nI (xtn k a) <<< ((1 : Int32) &&& 31) = nI (2 * xtn k a) := by
      rw [pk_shlN _ 1 (by decide) (by omega), Nat.pow_one, Nat.mul_comm]
    have hx := (xt_ok (xtn k a) hu).2
    unfold prF
    rw [ih]
    dsimp only
    rw [e1, e2]
    refine Prod.ext ?_ ?_
    · dsimp only
      show _ = nI (gS a b k ^^^ (b / 2 ^ k % 2 * xtn k a))
      rcases Nat.mod_two_eq_zero_or_one (b / 2 ^ k) with h | h
      · rw [h, if_pos nI_0, Nat.zero_mul, Nat.xor_zero]
      · rw [h, if_neg (by decide), Nat.one_mul, nx_xor]
    · dsimp only
      show _ = nI (xt (xtn k a))
      by_cases h : 2 * xtn k a ≤ 255
      · have hc : nI (2 * xtn k a) ≤ 255 := (nI_leI (a := 2 * xtn k a) (b := 255) (by omega) (by decide)).mpr h
        rw [if_pos hc, hx, if_pos h]
      · have hc : ¬ nI (2 * xtn k a) ≤ 255 := fun z => h ((nI_leI (a := 2 * xtn k a) (b := 255) (by omega) (by decide)).mp z)
        rw [if_neg hc, hx, if_neg h]
        exact nx_xor _ 283
theorem fProd_gm {a b : Nat} (ha : a < 256) (hb : b < 256) : fProd (nI a) (nI b) = nI (gm a b) := by
  unfold fProd
  rw [prF_gm ha hb 8 (by omega), gm_gS]
theorem ivF_gv {a : Nat} (ha : a < 256) : ∀ k, (gv k a).1 < 256 ∧ (gv k a).2 < 256 ∧ ivF (nI a) k = (nI (gv k a).1, nI (gv k a).2)
  | 0 => ⟨ha, by show 1 < 256; decide, rfl⟩
  | k + 1 => by
    obtain ⟨h1, h2, h3⟩ := ivF_gv ha k
    have h4 := gm_lt h1 h1
    refine ⟨h4, gm_lt h2 h4, ?_⟩
    unfold ivF
    rw [h3]
    dsimp only
    rw [fProd_gm h1 h1, fProd_gm h2 h4]
    rfl
theorem fInv_iv {a : Nat} (ha : a < 16) (h0 : a ≠ 0) : fInv (nI a) = nI (iv a) := by
  unfold fInv
  rw [(ivF_gv (by omega) 7).2.2, gv_ok a ha h0]
/-- the numbers of the set m (bits 1 to 8), in order -/
def PX (m : Nat) : List Nat := [1, 2, 3, 4, 5, 6, 7, 8].filter (fun i => Nat.testBit m i)
set_option maxRecDepth 100000 in
theorem PX_sum : ∀ m, m < 256 → ∀ n, n < (PX (2 * m)).length → xsum (fun i => wgt (fun j => (PX (2 * m)).getD j 0) i (n + 1)) (n + 1) = 1 := by decide +kernel
