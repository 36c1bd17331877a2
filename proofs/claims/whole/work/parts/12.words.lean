/-! A polynomial's value two ways; words out of bytes. -/
def pw (e : Nat) : Nat → Nat
  | 0 => 1
  | k + 1 => gm (pw e k) e
def hr (C : Nat → Nat) (e t : Nat) : Nat → Nat
  | 0 => 0
  | k + 1 => gm (hr C e t k) e ^^^ C (t - 1 - k)
theorem pw_lt {e : Nat} (he : e < 256) : ∀ k, pw e k < 256
  | 0 => by show 1 < 256; decide
  | k + 1 => gm_lt (pw_lt he k) he
theorem hr_ok {C : Nat → Nat} {e t : Nat} (hC : ∀ i, i < t → C i < 256) (he : e < 256) : ∀ k, k ≤ t → hr C e t k < 256 ∧ gm (hr C e t k) (pw e (t - k)) ^^^ xsum (fun i => gm (C i) (pw e i)) (t - k) = xsum (fun i => gm (C i) (pw e i)) t
  | 0, _ => ⟨by show 0 < 256; decide, by
      show gm 0 _ ^^^ xsum _ (t - 0) = _
      rw [gm_0l _ (pw_lt he _), Nat.zero_xor, Nat.sub_zero]⟩
  | k + 1, hk => by
    obtain ⟨h1, h2⟩ := hr_ok hC he k (by omega)
    have hc := hC (t - 1 - k) (by omega)
    refine ⟨xor_lt (gm_lt h1 he) hc, ?_⟩
    have e1 : t - (k + 1) = t - 1 - k := by omega
    have e2 : t - k = (t - 1 - k) + 1 := by omega
    rw [e1, ← h2, e2]
    show gm (gm (hr C e t k) e ^^^ C (t - 1 - k)) (pw e (t - 1 - k)) ^^^ _ = gm (hr C e t k) (gm (pw e (t - 1 - k)) e) ^^^ (xsum _ (t - 1 - k) ^^^ gm (C (t - 1 - k)) (pw e (t - 1 - k)))
    have hp := pw_lt he (t - 1 - k)
    rw [gm_xl (gm_lt h1 he) hc hp, gm_assoc h1 he hp, gm_comm he hp, Nat.xor_assoc, Nat.xor_comm (gm (C (t - 1 - k)) _)]
theorem hr_sum {C : Nat → Nat} {e t : Nat} (hC : ∀ i, i < t → C i < 256) (he : e < 256) : hr C e t t = xsum (fun i => gm (C i) (pw e i)) t := by
  obtain ⟨h1, h2⟩ := hr_ok hC he t (Nat.le_refl t)
  rw [Nat.sub_self] at h2
  have h3 : gm (hr C e t t) 1 ^^^ 0 = xsum (fun i => gm (C i) (pw e i)) t := h2
  rwa [gm_1r _ h1, Nat.xor_zero] at h3
theorem bt_nI (n i : Nat) : bt (nI n) i = (decide (i < 32) && n.testBit i) := BitVec.getLsbD_ofNat 32 n i
theorem tb_ge {b i : Nat} (hb : b < 256) (hi : 8 ≤ i) : b.testBit i = false := Nat.testBit_lt_two_pow (Nat.lt_of_lt_of_le hb (Nat.pow_le_pow_right (n := 2) (by decide) hi))
theorem or_x {x y : Int32} {b c : Nat} (hb : b < 256) (hc : c < 256) : ((x <<< ((8 : Int32) &&& 31)) ||| nI b) ^^^ ((y <<< ((8 : Int32) &&& 31)) ||| nI c) = ((x ^^^ y) <<< ((8 : Int32) &&& 31)) ||| nI (b ^^^ c) := by
  apply b_ext
  intro i hi
  rw [b_xor, b_or, b_or, b_or, b_shl8 _ hi, b_shl8 _ hi, b_shl8 _ hi, b_xor, bt_nI, bt_nI, bt_nI, Nat.testBit_xor]
  by_cases h : 8 ≤ i
  · rw [tb_ge hb h, tb_ge hc h]
    simp [h]
  · simp [h, hi]
/-- a word out of bytes, the first one highest -/
def cmp (b : Nat → Nat) : Nat → Int32
  | 0 => 0
  | k + 1 => (cmp b k <<< ((8 : Int32) &&& 31)) ||| nI (b k)
theorem cmp_xor {b c : Nat → Nat} : ∀ k, (∀ i, i < k → b i < 256) → (∀ i, i < k → c i < 256) → cmp (fun i => b i ^^^ c i) k = cmp b k ^^^ cmp c k
  | 0, _, _ => by show (0 : Int32) = 0 ^^^ 0; decide
  | k + 1, hb, hc => by
    show (cmp (fun i => b i ^^^ c i) k <<< ((8 : Int32) &&& 31)) ||| nI (b k ^^^ c k) = ((cmp b k <<< ((8 : Int32) &&& 31)) ||| nI (b k)) ^^^ ((cmp c k <<< ((8 : Int32) &&& 31)) ||| nI (c k))
    rw [or_x (hb k (by omega)) (hc k (by omega)), cmp_xor k (fun i hi => hb i (by omega)) (fun i hi => hc i (by omega))]
theorem cmp_congr {b c : Nat → Nat} : ∀ k, (∀ i, i < k → b i = c i) → cmp b k = cmp c k
  | 0, _ => rfl
  | k + 1, h => by
    show (cmp b k <<< ((8 : Int32) &&& 31)) ||| nI (b k) = (cmp c k <<< ((8 : Int32) &&& 31)) ||| nI (c k)
    rw [cmp_congr k (fun i hi => h i (by omega)), h k (by omega)]
/-- byte j of a word, the lowest is 0 -/
def byt (w : Int32) (j : Nat) : Nat := w.toBitVec.toNat / 2 ^ (8 * j) % 256
theorem byt_lt (w : Int32) (j : Nat) : byt w j < 256 := Nat.mod_lt _ (by decide)
theorem byt_u (w : Int32) {j : Nat} (hj : j < 4) : xushr w (8 * nI j) &&& 255 = nI (byt w j) := by
  have h8 : (8 : Int32) * nI j = nI (8 * j) := pk_mul 8 j
  rw [h8, pk_and _ 8 (by decide)]
  unfold xushr
  rw [pk_ushr w (nI (8 * j)) (8 * j) (s_u _ (by omega))]
  rfl
theorem byt_s (w : Int32) {j : Nat} (hj : j < 4) : (w >>> (nI (8 * j) &&& 31)) &&& 255 = nI (byt w j) := by
  rw [← byt_u w hj]
  have h8 : (8 : Int32) * nI j = nI (8 * j) := pk_mul 8 j
  rw [h8]
  apply b_ext
  intro i hi
  unfold xushr
  rw [b_and, b_and, b_sshr _ (by omega) _ hi, b_ushr _ (by omega), b_255]
  by_cases h : i < 8
  · rw [if_pos (by omega)]
  · simp [h]
