/-! What the class puts together out of given shares, by bytes. -/
theorem fGiv_ok {G i : Nat} (hG : G < 512) (hi : i ≤ 8) : fGiv (nI G) (nI i) = if G.testBit i = true then 1 else 0 := by
  have hd := Nat.div_le_self G (2 ^ i)
  have e1 : (nI G >>> (nI i &&& 31)) &&& 1 = nI (G / 2 ^ i % 2) := by
    rw [pk_shrN (by omega) _ i (s_l i (by omega)), pk_andN (by omega) 1 (by decide)]
  unfold fGiv
  rw [e1, Nat.testBit_eq_decide_div_mod_eq]
  rcases Nat.mod_two_eq_zero_or_one (G / 2 ^ i) with h | h
  · rw [h, if_pos nI_0]
    rfl
  · rw [h, if_neg (by decide)]
    rfl
theorem xor_16 {a b : Nat} (ha : a ≤ 8) (hb : b ≤ 8) : a ^^^ b < 16 := Nat.xor_lt_two_pow (n := 4) (by omega) (by omega)
theorem xor_ne {a b : Nat} (h : a ≠ b) : a ^^^ b ≠ 0 := fun z => h (by
  have := congrArg (fun x => x ^^^ b) z
  simpa [Nat.xor_assoc] using this)
theorem wzF_ok {G i : Nat} (hG : G < 512) (hi1 : 1 ≤ i) (hi : i ≤ 8) : ∀ j, j ≤ 8 → wzN G i j < 256 ∧ wzF (nI G) (nI i) j = nI (wzN G i j)
  | 0, _ => ⟨by show 1 < 256; decide, rfl⟩
  | j + 1, hj => by
    obtain ⟨h1, h2⟩ := wzF_ok hG hi1 hi j (by omega)
    unfold wzN wzF
    rw [fGiv_ok hG hj]
    by_cases e : j + 1 = i
    · rw [if_pos e, if_pos (by rw [e]), h2]
      exact ⟨h1, rfl⟩
    · rw [if_neg e, if_neg (fun z => e ((nI_eq (by omega) (by omega)).mp z))]
      by_cases hb : G.testBit (j + 1) = true
      · rw [if_pos hb, if_neg (by rw [if_pos hb]; decide), nx_xor, fInv_iv (xor_16 hj hi) (xor_ne e), h2]
        have hj2 : j + 1 < 256 := by omega
        have h3 := gm_lt hj2 (iv_lt ((j + 1) ^^^ i))
        rw [fProd_gm hj2 (iv_lt _), fProd_gm h1 h3]
        exact ⟨gm_lt h1 h3, rfl⟩
      · rw [if_neg hb, if_pos (by rw [if_neg hb]), h2]
        exact ⟨h1, rfl⟩
theorem scF_ok {x : Int32} {w : Nat} (hw : w < 256) : ∀ o, o ≤ 4 → scF x (nI w) o = cmp (fun o => gm (byt x (3 - o)) w) o
  | 0, _ => rfl
  | o + 1, h => by
    show (scF x (nI w) o <<< ((8 : Int32) &&& 31)) ||| fProd (xushr x (8 * nI (3 - o)) &&& 255) (nI w) = (cmp _ o <<< ((8 : Int32) &&& 31)) ||| nI (gm (byt x (3 - o)) w)
    rw [scF_ok hw o (by omega), byt_u x (by omega), fProd_gm (byt_lt _ _) hw]
theorem psum_lt {G : Nat} {f : Nat → Nat} (hf : ∀ i, f i < 256) : ∀ J, psum G f J < 256
  | 0 => by show 0 < 256; decide
  | J + 1 => by
    unfold psum
    split
    · exact xor_lt (psum_lt hf J) (hf _)
    · exact psum_lt hf J
theorem ptF_ok {G : Nat} (hG : G < 512) (gs : Nat → Int32) : ∀ J, J ≤ 8 → ptF (nI G) gs J = cmp (fun o => psum G (fun i => gm (byt (gs i) (3 - o)) (wzN G i 8)) J) 4
  | 0, _ => by
    show (0 : Int32) = cmp (fun _ => 0) 4
    decide
  | J + 1, h => by
    have ih := ptF_ok hG gs J (by omega)
    unfold ptF
    rw [fGiv_ok hG h]
    by_cases hb : G.testBit (J + 1) = true
    · obtain ⟨h1, h2⟩ := wzF_ok hG (i := J + 1) (by omega) h 8 (Nat.le_refl 8)
      rw [if_neg (by rw [if_pos hb]; decide), ih, h2, scF_ok h1 4 (Nat.le_refl 4)]
      rw [← cmp_xor 4 (fun o _ => ?_) (fun o _ => gm_lt (byt_lt _ _) h1)]
      · apply cmp_congr
        intro o _
        show _ = (if G.testBit (J + 1) = true then _ else _)
        rw [if_pos hb]
      · have : ∀ i, i ≤ J → wzN G i 8 < 256 → True := fun _ _ _ => trivial
        have hl : ∀ K, K ≤ J → psum G (fun i => gm (byt (gs i) (3 - o)) (wzN G i 8)) K < 256 := by
          intro K
          induction K with
          | zero => intro _; show 0 < 256; decide
          | succ K ih2 =>
            intro hK
            unfold psum
            split
            · exact xor_lt (ih2 (by omega)) (gm_lt (byt_lt _ _) (wzF_ok hG (i := K + 1) (by omega) (by omega) 8 (Nat.le_refl 8)).1)
            · exact ih2 (by omega)
        exact hl J (Nat.le_refl J)
    · rw [if_pos (by rw [if_neg hb]), ih]
      apply cmp_congr
      intro o _
      show _ = (if G.testBit (J + 1) = true then _ else _)
      rw [if_neg hb]
