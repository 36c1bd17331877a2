/-! A version in front, and back; the tie under a change of one version. -/
theorem gsF_congr {gg gg' : Nat → Int32} {k : Nat} : ∀ m, (∀ i, 1 ≤ i → i ≤ m → gg' (9 * k + i) = gg (9 * k + i)) → gsF gg' k m = gsF gg k m
  | 0, _ => rfl
  | m + 1, h => by
    unfold gsF
    rw [gsF_congr m (fun i h1 h2 => h i h1 (by omega)), h (m + 1) (by omega) (by omega)]
theorem gtF_congr {gg gg' : Nat → Int32} {k : Nat} : ∀ m, (∀ i, 1 ≤ i → i ≤ m → gg' (9 * k + i) = gg (9 * k + i)) → gtF gg' k m = gtF gg k m
  | 0, _ => rfl
  | m + 1, h => by
    unfold gtF
    rw [gtF_congr m (fun i h1 h2 => h i h1 (by omega)), h (m + 1) (by omega) (by omega)]
theorem gsF_0 {gg : Nat → Int32} {k : Nat} : ∀ m, (∀ i, 1 ≤ i → i ≤ m → gg (9 * k + i) = 0) → gsF gg k m = 0
  | 0, _ => rfl
  | m + 1, h => by
    unfold gsF
    rw [if_pos (h (m + 1) (by omega) (by omega)), gsF_0 m (fun i h1 h2 => h i h1 (by omega))]
theorem gtF_0 {gg : Nat → Int32} {k : Nat} : ∀ m, (∀ i, 1 ≤ i → i ≤ m → gg (9 * k + i) = 0) → gtF gg k m = 0
  | 0, _ => rfl
  | m + 1, h => by
    unfold gtF
    rw [if_pos (h (m + 1) (by omega) (by omega)), gtF_0 m (fun i h1 h2 => h i h1 (by omega))]
theorem dgF_at (gg : Nat → Int32) (v : Nat) : ∀ k j, dgF gg v k j = if 9 * v ≤ j ∧ j < 9 * v + k then 0 else gg j
  | 0, j => by rw [if_neg (by omega)]; rfl
  | k + 1, j => by
    show upd (dgF gg v k) (9 * v + k) 0 j = _
    by_cases e : j = 9 * v + k
    · subst e; rw [pk_us, if_pos (by omega)]
    · rw [pk_un e, dgF_at gg v k j]
      by_cases h : 9 * v ≤ j ∧ j < 9 * v + k
      · rw [if_pos h, if_pos (by omega)]
      · rw [if_neg h, if_neg (by omega)]
theorem dgF_in (gg : Nat → Int32) (v i : Nat) (h : i ≤ 8) : dgF gg v 9 (9 * v + i) = 0 := by rw [dgF_at, if_pos (by omega)]
theorem dgF_out (gg : Nat → Int32) {v j i : Nat} (h : i ≤ 8) (e : j ≠ v) : dgF gg v 9 (9 * j + i) = gg (9 * j + i) := by rw [dgF_at, if_neg (by omega)]
theorem dg_gs (gg : Nat → Int32) (k : Nat) : nI (gsF (dgF gg k 9) k 8) = 0 := by rw [gsF_0 8 (fun i _ h => dgF_in gg k i h)]; rfl
theorem dg_gt (gg : Nat → Int32) (k : Nat) : nI (gtF (dgF gg k 9) k 8) = 0 := by rw [gtF_0 8 (fun i _ h => dgF_in gg k i h)]; rfl
theorem gsF_up {gg : Nat → Int32} {k j : Nat} (hj : 1 ≤ j) (h0 : gg (9 * k + j) = 0) : ∀ m, gsF (upd gg (9 * k + j) 1) k m = if j ≤ m then gsF gg k m ||| 2 ^ j else gsF gg k m
  | 0 => by rw [if_neg (by omega)]; rfl
  | m + 1 => by
    have ih := gsF_up hj h0 m
    unfold gsF
    rw [ih]
    by_cases e : m + 1 = j
    · subst e
      rw [pk_us, if_neg (by decide), if_neg (by omega), h0, if_pos rfl, if_pos (Nat.le_refl _)]
    · rw [pk_un (by omega)]
      by_cases h : gg (9 * k + (m + 1)) = 0
      · rw [if_pos h, if_pos h]
        by_cases h2 : j ≤ m
        · rw [if_pos h2, if_pos (by omega)]
        · rw [if_neg h2, if_neg (by omega)]
      · rw [if_neg h, if_neg h]
        by_cases h2 : j ≤ m
        · rw [if_pos h2, if_pos (by omega), Nat.or_assoc, Nat.or_comm (2 ^ j), ← Nat.or_assoc]
        · rw [if_neg h2, if_neg (by omega)]
theorem gtF_up {gg : Nat → Int32} {k j : Nat} (hj : 1 ≤ j) (h0 : gg (9 * k + j) = 0) : ∀ m, gtF (upd gg (9 * k + j) 1) k m = if j ≤ m then gtF gg k m + 1 else gtF gg k m
  | 0 => by rw [if_neg (by omega)]; rfl
  | m + 1 => by
    have ih := gtF_up hj h0 m
    unfold gtF
    rw [ih]
    by_cases e : m + 1 = j
    · subst e
      rw [pk_us, if_neg (by decide), if_neg (by omega), h0, if_pos rfl, if_pos (Nat.le_refl _)]
    · rw [pk_un (by omega)]
      by_cases h : gg (9 * k + (m + 1)) = 0
      · rw [if_pos h, if_pos h]
        by_cases h2 : j ≤ m
        · rw [if_pos h2, if_pos (by omega)]
        · rw [if_neg h2, if_neg (by omega)]
      · rw [if_neg h, if_neg h]
        by_cases h2 : j ≤ m
        · rw [if_pos h2, if_pos (by omega)]
        · rw [if_neg h2, if_neg (by omega)]
theorem gsF_bit {gg : Nat → Int32} {k j : Nat} (hj : 1 ≤ j) : ∀ m, (gsF gg k m).testBit j = (decide (j ≤ m) && decide (¬ gg (9 * k + j) = 0))
  | 0 => by
    have : ¬ j ≤ 0 := by omega
    show (0 : Nat).testBit j = _
    simp [this]
  | m + 1 => by
    have ih := gsF_bit (gg := gg) (k := k) hj m
    unfold gsF
    by_cases h : gg (9 * k + (m + 1)) = 0
    · rw [if_pos h, ih]
      by_cases e : j = m + 1
      · subst e; simp [h]
      · have : (j ≤ m) = (j ≤ m + 1) := propext (by omega)
        simp only [this]
    · rw [if_neg h, Nat.testBit_or, ih, Nat.testBit_two_pow]
      by_cases e : j = m + 1
      · subst e; simp [h]
      · have e1 : (j ≤ m) = (j ≤ m + 1) := propext (by omega)
        have e2 : ¬ m + 1 = j := fun z => e z.symm
        simp [e1, e2]
theorem gsF_lt {gg : Nat → Int32} {k : Nat} : ∀ m, m ≤ 8 → gsF gg k m < 512
  | 0, _ => by show 0 < 512; decide
  | m + 1, h => by
    have ih := gsF_lt (gg := gg) (k := k) m (by omega)
    unfold gsF
    split
    · exact ih
    · exact Nat.or_lt_two_pow (n := 9) ih (Nat.pow_lt_pow_right (by decide) (by omega))
theorem fGiv_gs {gg : Nat → Int32} {k j : Nat} (hj : 1 ≤ j ∧ j ≤ 8) : fGiv (nI (gsF gg k 8)) (nI j) = 0 ↔ gg (9 * k + j) = 0 := by
  rw [fGiv_ok (gsF_lt 8 (Nat.le_refl 8)) hj.2, gsF_bit hj.1]
  by_cases h : gg (9 * k + j) = 0
  · simp [h]
  · simp [h, hj.2]
/-- two states of the versions that differ at one of them alone -/
def Ag (k : Nat) (st se su tt zz gg : Nat → Int32) (vd vg : Nat → Nat → Int32) (st' se' su' tt' zz' gg' : Nat → Int32) (vd' vg' : Nat → Nat → Int32) : Prop := ∀ j, j ≠ k → st' j = st j ∧ se' j = se j ∧ su' j = su j ∧ tt' j = tt j ∧ zz' j = zz j ∧ vd' j = vd j ∧ vg' j = vg j ∧ ∀ i, 1 ≤ i → i ≤ 8 → gg' (9 * j + i) = gg (9 * j + i)
theorem Ag_v {cI : ClassId} {vq : Nat → Nat → Nat} {k : Nat} {st se su tt zz gg : Nat → Int32} {vd vg : Nat → Nat → Int32} {st' se' su' tt' zz' gg' : Nat → Int32} {vd' vg' : Nat → Nat → Int32} (h : Ag k st se su tt zz gg vd vg st' se' su' tt' zz' gg' vd' vg') (j : Nat) (e : j ≠ k) : vfun cI vq st se su tt zz gg vd vg j = vfun cI vq st' se' su' tt' zz' gg' vd' vg' j := by
  obtain ⟨h1, h2, h3, h4, h5, h6, h7, h8⟩ := h j e
  funext tl
  unfold vfun
  rw [h1, h2, h3, h4, h5, h6, h7, gsF_congr 8 h8, gtF_congr 8 h8]
section FV
variable {s : State} {D : va_G} {A : Nat → Prop} {tys : List (ClassId × FieldType)} {H0 H : Heap} {locs : List Loc} {a : Nat → Nat} {cI cZ cV : ClassId} {f n c0 z0 n0 n1 : Nat} {ctr : Int32} {act : Option Nat} {mk : Nat → Option Nat} {ring ks ns ds ss bs sh C pu st se su tt zz dd hh gg xx yy : Nat → Int32} {vq : Nat → Nat → Nat} {k : Nat}
theorem focus {v : Nat → va_W → va_W} (hv : ∀ k tl, v k tl = v k [] ++ tl) (hk : k < n1) (hw : xW D tys A H0 H locs (bigX a cI cZ cV f n c0 z0 n0 n1 ctr act mk ring ks ns ds ss bs sh C pu st se su tt zz dd hh gg xx yy (vcs v n1 [])) s) : xW D tys A H0 H locs (bigX a cI cZ cV f n c0 z0 n0 n1 ctr act mk ring ks ns ds ss bs sh C pu st se su tt zz dd hh gg xx yy (v k (vcx v k n1 []))) s := x_perm (bigX_perm (vcs_perm hv n1 [] hk)) hw
theorem unfocus {nn : Nat} {v v' : Nat → va_W → va_W} (hv : ∀ k tl, v' k tl = v' k [] ++ tl) (hk : k < nn) (he : ∀ j, j ≠ k → v j = v' j) (hw : xW D tys A H0 H locs (bigX a cI cZ cV f n c0 z0 n0 n1 ctr act mk ring ks ns ds ss bs sh C pu st se su tt zz dd hh gg xx yy (v' k (vcx v k nn []))) s) : xW D tys A H0 H locs (bigX a cI cZ cV f n c0 z0 n0 n1 ctr act mk ring ks ns ds ss bs sh C pu st se su tt zz dd hh gg xx yy (vcs v' nn [])) s := by
  rw [vcx_congr nn [] (fun j _ e => he j e)] at hw
  exact x_perm (bigX_perm (vcs_perm hv nn [] hk).symm) hw
end FV
theorem Rv_upd {n1 k : Nat} {su tt zz dd hh gg : Nat → Int32} {vd vg : Nat → Nat → Int32} {st se st' se' : Nat → Int32} {su' tt' zz' dd' hh' gg' : Nat → Int32} {vd' vg' : Nat → Nat → Int32} (h : Rv n1 su tt zz dd hh gg vd vg) (hg : Ag k st se su tt zz gg vd vg st' se' su' tt' zz' gg' vd' vg') (hd : ∀ j, j ≠ k → ∀ i, 1 ≤ i → i ≤ 8 → dd' (9 * j + i) = dd (9 * j + i) ∧ hh' (9 * j + i) = hh (9 * j + i))
    (hk : (∃ t z : Nat, tt' k = nI t ∧ zz' k = nI z ∧ t ≤ z ∧ z ≤ 8 ∧ (¬ su' k = 0 → gtF gg' k 8 < t) ∧ ∀ i, 1 ≤ i → i ≤ z → vd' k i = dd' (9 * k + i)) ∧ (∀ i, 1 ≤ i → i ≤ 8 → ¬ gg' (9 * k + i) = 0 → vg' k i = hh' (9 * k + i)) ∧ (su' k = 0 → ∀ i, 1 ≤ i → i ≤ 8 → gg' (9 * k + i) = 0) ∧ (n1 ≤ k → tt' k = 0 ∧ zz' k = 0 ∧ su' k = 0)) : Rv n1 su' tt' zz' dd' hh' gg' vd' vg' := by
  intro j hj
  by_cases e : j = k
  · subst e; exact hk
  · obtain ⟨h1, h2, h3, h4, h5, h6, h7, h8⟩ := hg j e
    obtain ⟨⟨t, z, p1, p2, p3, p4, p5, p6⟩, q, r, u⟩ := h j hj
    refine ⟨⟨t, z, h4.trans p1, h5.trans p2, p3, p4, fun g => ?_, fun i i1 i2 => ?_⟩, fun i i1 i2 g => ?_, fun g i i1 i2 => ?_, fun g => ?_⟩
    · rw [gtF_congr 8 h8]; exact p5 (by rw [← h3]; exact g)
    · rw [h6, (hd j e i i1 (by omega)).1]; exact p6 i i1 i2
    · rw [h7, (hd j e i i1 i2).2]; exact q i i1 i2 (by rw [← h8 i i1 i2]; exact g)
    · rw [h8 i i1 i2]; exact r (by rw [← h3]; exact g) i i1 i2
    · rw [h4, h5, h3]; exact u g
