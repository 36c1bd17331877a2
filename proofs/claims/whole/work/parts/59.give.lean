/-! Given shares put together: the two ways agree. -/
theorem gsF_even {gg : Nat → Int32} {k : Nat} : ∀ m, (gsF gg k m).testBit 0 = false
  | 0 => by show (0 : Nat).testBit 0 = false; simp
  | m + 1 => by
    have ih := gsF_even (gg := gg) (k := k) m
    unfold gsF
    split
    · exact ih
    · rw [Nat.testBit_or, ih, Nat.testBit_two_pow]
      have : ¬ m + 1 = 0 := by omega
      simp [this]
theorem gsF_2 (gg : Nat → Int32) (k : Nat) : ∃ m, m < 256 ∧ gsF gg k 8 = 2 * m := by
  have h1 := gsF_lt (gg := gg) (k := k) 8 (Nat.le_refl 8)
  have h2 := gsF_even (gg := gg) (k := k) 8
  rw [Nat.testBit_zero] at h2
  have h3 : ¬ gsF gg k 8 % 2 = 1 := by simpa using h2
  exact ⟨gsF gg k 8 / 2, by omega, by omega⟩
theorem cnt_gt {gg : Nat → Int32} {k : Nat} : ∀ i, i ≤ 8 → cnt (gsF gg k 8) i = gtF gg k i
  | 0, _ => rfl
  | i + 1, h => by
    show (if (gsF gg k 8).testBit (i + 1) = true then cnt (gsF gg k 8) i + 1 else cnt (gsF gg k 8) i) = (if gg (9 * k + (i + 1)) = 0 then gtF gg k i else gtF gg k i + 1)
    rw [cnt_gt i (by omega), gsF_bit (by omega)]
    by_cases e : gg (9 * k + (i + 1)) = 0
    · simp [e]
    · simp [e, h]
theorem bd_ok {gg hh : Nat → Int32} {v m : Nat} (hm : m < 256) (hG : gsF gg v 8 = 2 * m) (kb : Int32) (x y : Nat → Int32) : ∀ i, i ≤ 8 → (bdF gg hh v kb x y i).2.2 = cnt (2 * m) i ∧ ∀ p, p < cnt (2 * m) i → (bdF gg hh v kb x y i).1 p = nI (Xp (2 * m) p) ∧ (bdF gg hh v kb x y i).2.1 p = fByt (hh (9 * v + Xp (2 * m) p)) kb
  | 0, _ => ⟨rfl, fun p hp => absurd hp (Nat.not_lt_zero p)⟩
  | i + 1, hi => by
    obtain ⟨ih1, ih2⟩ := bd_ok hm hG kb x y i (by omega)
    have hbit := gsF_bit (gg := gg) (k := v) (j := i + 1) (by omega) 8
    rw [hG] at hbit
    by_cases e : gg (9 * v + (i + 1)) = 0
    · have e1 : bdF gg hh v kb x y (i + 1) = bdF gg hh v kb x y i := by show (if _ then _ else _) = _; rw [if_pos e]
      have e2 : cnt (2 * m) (i + 1) = cnt (2 * m) i := by show (if _ then _ else _) = _; rw [hbit]; simp [e]
      rw [e1, e2]
      exact ⟨ih1, ih2⟩
    · have hb : Nat.testBit (2 * m) (i + 1) = true := by rw [hbit]; simp [e, hi]
      have e1 : bdF gg hh v kb x y (i + 1) = (upd (bdF gg hh v kb x y i).1 (bdF gg hh v kb x y i).2.2 (nI (i + 1)), upd (bdF gg hh v kb x y i).2.1 (bdF gg hh v kb x y i).2.2 (fByt (hh (9 * v + (i + 1))) kb), (bdF gg hh v kb x y i).2.2 + 1) := by show (if _ then _ else _) = _; rw [if_neg e]
      have e2 : cnt (2 * m) (i + 1) = cnt (2 * m) i + 1 := by show (if _ then _ else _) = _; rw [if_pos hb]
      have e3 := Xp_1 m hm i (by omega) hb
      rw [e1, e2]
      refine ⟨by show (bdF gg hh v kb x y i).2.2 + 1 = _; rw [ih1], fun p hp => ?_⟩
      show upd (bdF gg hh v kb x y i).1 (bdF gg hh v kb x y i).2.2 (nI (i + 1)) p = _ ∧ upd (bdF gg hh v kb x y i).2.1 (bdF gg hh v kb x y i).2.2 (fByt (hh (9 * v + (i + 1))) kb) p = _
      rw [ih1]
      by_cases q : p = cnt (2 * m) i
      · subst q; rw [pk_us, pk_us, e3]; exact ⟨rfl, rfl⟩
      · rw [pk_un q, pk_un q]; exact ih2 p (by omega)
theorem psum_congr {G : Nat} {f g : Nat → Nat} : ∀ J, (∀ i, 1 ≤ i → i ≤ J → G.testBit i = true → f i = g i) → psum G f J = psum G g J
  | 0, _ => rfl
  | J + 1, h => by
    show (if G.testBit (J + 1) = true then psum G f J ^^^ f (J + 1) else psum G f J) = (if G.testBit (J + 1) = true then psum G g J ^^^ g (J + 1) else psum G g J)
    rw [psum_congr J (fun i h1 h2 => h i h1 (by omega))]
    by_cases e : G.testBit (J + 1) = true
    · rw [if_pos e, if_pos e, h (J + 1) (by omega) (Nat.le_refl _) e]
    · rw [if_neg e, if_neg e]
theorem byte_at {gg hh : Nat → Int32} {v m : Nat} (hm : m < 256) (hG : gsF gg v 8 = 2 * m) {m0 : Nat} (hN : cnt (2 * m) 8 = m0 + 1) {k : Nat} (hk : k < 4) (x y : Nat → Int32) : avF (bdF gg hh v (nI k) x y 8).1 (aoF (bdF gg hh v (nI k) x y 8).1 (bdF gg hh v (nI k) x y 8).2.1 (m0 + 1) m0) m0 = nI (psum (2 * m) (fun i => gm (byt (hh (9 * v + i)) (3 - k)) (wzN (2 * m) i 8)) 8) := by
  obtain ⟨-, h2⟩ := bd_ok (hh := hh) hm hG (nI k) x y 8 (Nat.le_refl 8)
  have hx : ∀ j, j < m0 + 1 → Xp (2 * m) j < 256 ∧ (bdF gg hh v (nI k) x y 8).1 j = nI (Xp (2 * m) j) := fun j hj => ⟨by have := (Xp_in m hm j (by omega)).2; omega, (h2 j (by omega)).1⟩
  have hy : ∀ j, j < m0 + 1 → (fun j => byt (hh (9 * v + Xp (2 * m) j)) (3 - k)) j < 256 ∧ (bdF gg hh v (nI k) x y 8).2.1 j = nI ((fun j => byt (hh (9 * v + Xp (2 * m) j)) (3 - k)) j) := fun j hj => ⟨byt_lt _ _, by rw [(h2 j (by omega)).2, fByt_ok _ hk]⟩
  have ho := aoF_ok hx hy m0 (by omega)
  have hl := anO_lt (X := Xp (2 * m)) (fun j hj => (hy j hj).1) m0 (by omega)
  have hv := avF_ok hx (fun j hj => ⟨hl j hj, ho j hj⟩) m0 (by omega)
  rw [hv.2]
  have e := an_all (X := Xp (2 * m)) (Y := fun j => byt (hh (9 * v + Xp (2 * m) j)) (3 - k)) (n := m0 + 1) (by omega)
  rw [Nat.add_sub_cancel] at e
  have e2 := open_ok hm (by omega) (B := fun i => byt (hh (9 * v + i)) (3 - k)) (fun i => byt_lt _ _)
  rw [hN, Nat.add_sub_cancel] at e2
  rw [e, e2]
theorem tg_ok {gg hh : Nat → Int32} {v m : Nat} (hm : m < 256) (hG : gsF gg v 8 = 2 * m) {m0 : Nat} (hN : cnt (2 * m) 8 = m0 + 1) (xx yy : Nat → Int32) : ∀ k, k ≤ 4 → (tgF gg hh v m0 xx yy k).2.2 = cmp (fun o => psum (2 * m) (fun i => gm (byt (hh (9 * v + i)) (3 - o)) (wzN (2 * m) i 8)) 8) k
  | 0, _ => rfl
  | k + 1, hk => by
    have ih := tg_ok (hh := hh) hm hG hN xx yy k (by omega)
    show ((tgF gg hh v m0 xx yy k).2.2 <<< ((8 : Int32) &&& 31)) ||| avF _ _ m0 = (cmp _ k <<< ((8 : Int32) &&& 31)) ||| nI _
    rw [ih, byte_at hm hG hN (by omega)]
theorem open_eq {gg hh gs : Nat → Int32} {v m0 : Nat} (hN : gtF gg v 8 = m0 + 1) (hg : ∀ i, 1 ≤ i → i ≤ 8 → ¬ gg (9 * v + i) = 0 → gs i = hh (9 * v + i)) (xx yy : Nat → Int32) : (tgF gg hh v m0 xx yy 4).2.2 = ptF (nI (gsF gg v 8)) gs 8 := by
  obtain ⟨m, hm, hG⟩ := gsF_2 gg v
  have hc : cnt (2 * m) 8 = m0 + 1 := by rw [← hG, cnt_gt 8 (Nat.le_refl 8)]; exact hN
  rw [tg_ok hm hG hc xx yy 4 (Nat.le_refl 4), hG, ptF_ok (by omega) gs 8 (Nat.le_refl 8)]
  refine cmp_congr 4 (fun o _ => psum_congr 8 (fun i h1 h2 hb => ?_))
  have hb2 := gsF_bit (gg := gg) (k := v) (j := i) h1 8
  rw [hG, hb] at hb2
  have : ¬ gg (9 * v + i) = 0 := fun z => by simp [z] at hb2
  rw [hg i h1 h2 this]
theorem open_c {gg hh : Nat → Int32} {v m0 : Nat} (hN : gtF gg v 8 = m0 + 1) (kb : Int32) (x y : Nat → Int32) : (bdF gg hh v kb x y 8).2.2 = m0 + 1 := by
  obtain ⟨m, hm, hG⟩ := gsF_2 gg v
  rw [(bd_ok hm hG kb x y 8 (Nat.le_refl 8)).1, ← hG, cnt_gt 8 (Nat.le_refl 8)]
  exact hN
theorem open_pts {gg hh : Nat → Int32} {v m0 : Nat} (hN : gtF gg v 8 = m0 + 1) (kb : Int32) (x y : Nat → Int32) : ∃ X Y : Nat → Nat, (∀ j, j < m0 + 1 → X j < 256 ∧ (bdF gg hh v kb x y 8).1 j = nI (X j)) ∧ (∀ j, j < m0 + 1 → Y j < 256 ∧ (bdF gg hh v kb x y 8).2.1 j = nI (Y j)) ∧ (∀ j, j < m0 + 1 → X j ≤ 8) ∧ ∀ j, j < m0 + 1 → ∀ k, k < j → X k ≠ X j := by
  obtain ⟨m, hm, hG⟩ := gsF_2 gg v
  have hc : cnt (2 * m) 8 = m0 + 1 := by rw [← hG, cnt_gt 8 (Nat.le_refl 8)]; exact hN
  obtain ⟨-, h2⟩ := bd_ok (hh := hh) hm hG kb x y 8 (Nat.le_refl 8)
  refine ⟨Xp (2 * m), fun j => toN ((bdF gg hh v kb x y 8).2.1 j), fun j hj => ⟨by have := (Xp_in m hm j (by omega)).2; omega, (h2 j (by omega)).1⟩, fun j hj => ⟨?_, (nI_toN _).symm⟩, fun j hj => (Xp_in m hm j (by omega)).2, fun j hj k hk => Xp_inj m hm j (by omega) k hk⟩
  show toN _ < 256
  rw [(h2 j (by omega)).2]
  obtain ⟨b, hb, e⟩ := and_b (hh (9 * v + Xp (2 * m) j) >>> ((24 - 8 * kb) &&& 31))
  show toN (_ &&& 255) < 256
  rw [e, toN_nI (by omega)]
  exact hb
theorem open_A {gg hh : Nat → Int32} {v m0 : Nat} (hN : gtF gg v 8 = m0 + 1) (kb : Int32) (x y : Nat → Int32) (k l : Nat) (hkl : k + l = m0) (j : Nat) (hj : j < l) : toN (aiF (bdF gg hh v kb x y 8).1 (aoF (bdF gg hh v kb x y 8).1 (bdF gg hh v kb x y 8).2.1 (m0 + 1) k) l j j ^^^ aiF (bdF gg hh v kb x y 8).1 (aoF (bdF gg hh v kb x y 8).1 (bdF gg hh v kb x y 8).2.1 (m0 + 1) k) l j l) < 256 := by
  obtain ⟨X, Y, hx, hy, -, -⟩ := open_pts (hh := hh) hN kb x y
  have ho := aoF_ok hx hy k (by omega)
  have hl := anO_lt (X := X) (fun j hj => (hy j hj).1) k (by omega)
  rw [aiF_ge _ _ _ j j (Nat.le_refl j), aiF_ge _ _ _ j l (by omega), ho j (by omega), ho l (by omega), nx_xor]
  have h1 := xor_lt (hl j (by omega)) (hl l (by omega))
  rw [toN_nI (by omega)]
  exact h1
theorem open_B {gg hh : Nat → Int32} {v m0 : Nat} (hN : gtF gg v 8 = m0 + 1) (kb : Int32) (x y : Nat → Int32) (l j : Nat) (hj : j < l) (hl : l ≤ m0) : 0 < toN ((bdF gg hh v kb x y 8).1 j ^^^ (bdF gg hh v kb x y 8).1 l) ∧ toN ((bdF gg hh v kb x y 8).1 j ^^^ (bdF gg hh v kb x y 8).1 l) < 16 := by
  obtain ⟨X, Y, hx, -, h8, hne⟩ := open_pts (hh := hh) hN kb x y
  rw [(hx j (by omega)).2, (hx l (by omega)).2, nx_xor]
  have h1 := xor_16 (h8 j (by omega)) (h8 l (by omega))
  have h2 := xor_ne (hne l (by omega) j hj)
  rw [toN_nI (by omega)]
  omega

set_option maxHeartbeats 4000000 in
set_option maxRecDepth 100000 in
theorem r_give {p : Program} {l : Launch} {e : Env} {s : State} {m : MethodId} {args : Array Value} {below : List Frame} {meth : Method} {c : Code} {Q : State → Prop} {D : va_G} {A : Nat → Prop} {cI cZ cV : ClassId} {H : Heap} {locs : List Loc} {ls : Array Slot} {cells slots : Nat} (S : CallFix p m c code 4 s args xAll "EscrowedVersionsLaw") {sb L : Nat} {xs : Nat → Int32} (hX : va_X sb L xs s s.heap) (hbl : sb < s.heap.size) (hbA : ¬ A sb) (hL : L ≤ 2048) {i0 : Nat} (hi : i0 + 3 < L) (hcs : cells + 3 ≤ 600000 ∧ slots + 28 ≤ 7302250) {a : Nat → Nat} (hS : St a D A cI cZ cV s H locs) (hl : lv_has ls 4 [(0, .ref sb), (1, .ref (a 0)), (2, .ref (a 14)), (3, .int (nI i0))]) (kk : ∀ (H : Heap) (locs : List Loc) (ls : Array Slot), St a D A cI cZ cV s H locs → lv_has ls 4 [(0, .ref sb), (1, .ref (a 0)), (2, .ref (a 14)), (3, .int (nI i0))] → W p l e room_1 s m args below meth c H locs (cells + 3) (slots + 28) Q (F0 m 582 ls [])) : W p l e room_1 s m args below meth c H locs cells slots Q (F0 m 318 ls []) := by
  obtain ⟨f, n, c0, z0, n0, n1, ctr, act, mk, ring, ks, ns, ds, ss, bs, sh, C, pu, st, se, su, tt, zz, dd, hh, gg, xx, yy, vq, vd, vg, hw, hcoin, hc0, hb0, hn0, hn1, hm, ha, hv⟩ := hS
  rcases idx_of (xs (i0 + 1)) (n := n1) (by omega) with h | ⟨k, hk, hx⟩
  · exact s_giv_no S hX hbl hbA hL hi hcs hl hw h h (fun H locs ls hw hl => kk H locs ls ⟨_, _, _, _, _, _, _, _, _, _, _, _, _, _, _, _, _, _, _, _, _, _, _, _, _, _, _, _, _, _, _, hw, hcoin, hc0, hb0, hn0, hn1, hm, ha, hv⟩ hl)
  have hk8 : k < n1 ∧ n1 ≤ 8 := ⟨hk, hn1⟩
  have hmk := hm k hk
  have hw1 := focus vfun_app hk hw
  by_cases h3 : st k = 3
  · exact s_giv_gone S hX hbl hbA hL hi hcs hl hw1 hmk hk8 h3 hk8 h3 hx (fun H locs ls hw hl => kk H locs ls ⟨f, n, c0, z0, n0, n1, ctr, act, mk, ring, ks, ns, ds, ss, bs, sh, C, pu, st, se, su, tt, zz, dd, hh, gg, xx, yy, vq, vd, vg, unfocus (v := vfun cI vq st se su tt zz gg vd vg) vfun_app hk (fun _ _ => rfl) hw, hcoin, hc0, hb0, hn0, hn1, hm, ha, hv⟩ hl)
  by_cases h0 : su k = 0
  · exact s_giv_state S hX hbl hbA hL hi hcs hl hw1 hmk hk8 h3 h0 hk8 h3 h0 hx (fun H locs ls hw hl => kk H locs ls ⟨f, n, c0, z0, n0, n1, ctr, act, mk, ring, ks, ns, ds, ss, bs, sh, C, pu, st, se, su, tt, zz, dd, hh, gg, xx, yy, vq, vd, vg, unfocus (v := vfun cI vq st se su tt zz gg vd vg) vfun_app hk (fun _ _ => rfl) hw, hcoin, hc0, hb0, hn0, hn1, hm, ha, hv⟩ hl)
  obtain ⟨⟨t, z, p1, p2, p3, p4, p5, p6⟩, q5, -, -⟩ := hv k (by omega)
  rcases le_of (xs (i0 + 2)) (n := z) (by omega) with h | ⟨j, hj, hx2⟩
  · have h' : xs (i0 + 2) < 1 ∨ zz k < xs (i0 + 2) := h.imp (fun z => Int32.lt_trans z (by decide)) (fun y => by rw [p2]; exact y)
    exact s_giv_out S hX hbl hbA hL hi hcs hl hw1 hmk hk8 h3 h0 h' hk8 h3 h0 h' hx (fun H locs ls hw hl => kk H locs ls ⟨f, n, c0, z0, n0, n1, ctr, act, mk, ring, ks, ns, ds, ss, bs, sh, C, pu, st, se, su, tt, zz, dd, hh, gg, xx, yy, vq, vd, vg, unfocus (v := vfun cI vq st se su tt zz gg vd vg) vfun_app hk (fun _ _ => rfl) hw, hcoin, hc0, hb0, hn0, hn1, hm, ha, hv⟩ hl)
  rcases Nat.lt_or_ge j 1 with hj1 | hj1
  · have h' : xs (i0 + 2) < 1 ∨ zz k < xs (i0 + 2) := Or.inl (by rw [hx2]; exact nI_lt (a := j) (b := 1) hj1 (by decide))
    exact s_giv_out S hX hbl hbA hL hi hcs hl hw1 hmk hk8 h3 h0 h' hk8 h3 h0 h' hx (fun H locs ls hw hl => kk H locs ls ⟨f, n, c0, z0, n0, n1, ctr, act, mk, ring, ks, ns, ds, ss, bs, sh, C, pu, st, se, su, tt, zz, dd, hh, gg, xx, yy, vq, vd, vg, unfocus (v := vfun cI vq st se su tt zz gg vd vg) vfun_app hk (fun _ _ => rfl) hw, hcoin, hc0, hb0, hn0, hn1, hm, ha, hv⟩ hl)
  have hj8 : 1 ≤ j ∧ j ≤ 8 := ⟨hj1, by omega⟩
  have hsc : ¬ zz k < nI j := by rw [p2]; exact nI_nlt hj (by omega)
  have hvd := p6 j hj1 hj
  by_cases hd : ¬ dd (9 * k + j) = fDig (nI j) (xs (i0 + 3))
  · exact s_giv_forg S hX hbl hbA hL hi hcs hl hw1 hmk hk8 h3 h0 hj8 hsc (by rw [hvd]; exact hd) hk8 h3 h0 hj8 hsc hd hx hx2 (fun H locs ls hw hl => kk H locs ls ⟨f, n, c0, z0, n0, n1, ctr, act, mk, ring, ks, ns, ds, ss, bs, sh, C, pu, st, se, su, tt, zz, dd, hh, gg, xx, yy, vq, vd, vg, unfocus (v := vfun cI vq st se su tt zz gg vd vg) vfun_app hk (fun _ _ => rfl) hw, hcoin, hc0, hb0, hn0, hn1, hm, ha, hv⟩ hl)
  have hd := Decidable.byContradiction hd
  have hd1 := hvd.trans hd
  obtain ⟨d0, hd0⟩ : ∃ d0, t = gtF gg k 8 + d0 + 1 := ⟨t - gtF gg k 8 - 1, by have := p5 h0; omega⟩
  have ht : tt k = nI (gtF gg k 8 + d0 + 1) := by rw [p1, hd0]
  rw [vfun_at (q := vq k) rfl rfl rfl rfl ht rfl rfl rfl rfl rfl] at hw1
  by_cases hgv : ¬ gg (9 * k + j) = 0
  · exact s_giv_have S hX hbl hbA hL hi hcs hl hw1 hmk hk8 h3 h0 hj8 hsc hd1 (fun z => hgv ((fGiv_gs hj8).mp z)) hk8 h3 h0 hj8 hsc hd ht rfl hgv hx hx2 (fun H locs ls hw hl => kk H locs ls ⟨f, n, c0, z0, n0, n1, ctr, act, mk, ring, ks, ns, ds, ss, bs, sh, C, pu, st, se, su, tt, zz, dd, hh, gg, xx, yy, vq, vd, vg, (by refine unfocus (v := vfun cI vq st se su tt zz gg vd vg) vfun_app hk (fun _ _ => rfl) ?_; rw [vfun_at (q := vq k) rfl rfl rfl rfl ht rfl rfl rfl rfl rfl]; exact hw), hcoin, hc0, hb0, hn0, hn1, hm, ha, hv⟩ hl)
  have hgv := Decidable.byContradiction hgv
  have hgc : fGiv (nI (gsF gg k 8)) (nI j) = 0 := (fGiv_gs hj8).mpr hgv
  have e6 : nI (gsF (upd gg (9 * k + j) 1) k 8) = nI (gsF gg k 8 ||| 2 ^ j) := by rw [gsF_up hj1 hgv 8, if_pos hj8.2]
  have e7' : gtF (upd gg (9 * k + j) 1) k 8 = gtF gg k 8 + 1 := by rw [gtF_up hj1 hgv 8, if_pos hj8.2]
  have e7 : nI (gtF (upd gg (9 * k + j) 1) k 8) = nI (gtF gg k 8 + 1) := by rw [e7']
  have hvg : ∀ i, 1 ≤ i → i ≤ 8 → ¬ upd gg (9 * k + j) 1 (9 * k + i) = 0 → upd (vg k) j (xs (i0 + 3)) i = upd hh (9 * k + j) (xs (i0 + 3)) (9 * k + i) := fun i i1 i2 g => by
    by_cases e : i = j
    · subst e; rw [pk_us, pk_us]
    · rw [pk_un e, pk_un (by omega)]
      rw [pk_un (by omega)] at g
      exact q5 i i1 i2 g
  have hho : ∀ j', j' ≠ k → ∀ i, 1 ≤ i → i ≤ 8 → dd (9 * j' + i) = dd (9 * j' + i) ∧ upd hh (9 * k + j) (xs (i0 + 3)) (9 * j' + i) = hh (9 * j' + i) := fun j' e i i1 i2 => ⟨rfl, pk_un (by omega)⟩
  rcases Nat.eq_zero_or_pos d0 with hz | hz
  · subst hz
    by_cases h79 : 79 ≤ c0
    · exact s_giv_full2 S hX hbl hbA hL hi hcs hl hw1 hmk hk8 h3 h0 hj8 hsc hd1 hgc ⟨h79, hc0⟩ hk8 h3 h0 hj8 hsc hd ht rfl hgv ⟨h79, hc0⟩ hx hx2 (fun H locs ls hw hl => kk H locs ls ⟨f, n, c0, z0, n0, n1, ctr, act, mk, ring, ks, ns, ds, ss, bs, sh, C, pu, st, se, su, tt, zz, dd, hh, gg, xx, yy, vq, vd, vg, (by refine unfocus (v := vfun cI vq st se su tt zz gg vd vg) vfun_app hk (fun _ _ => rfl) ?_; rw [vfun_at (q := vq k) rfl rfl rfl rfl ht rfl rfl rfl rfl rfl]; exact hw), hcoin, hc0, hb0, hn0, hn1, hm, ha, hv⟩ hl)
    have hc : c0 + 1 < 80 := by omega
    have hop := open_eq (xx := xx) (yy := yy) e7' hvg
    rw [e6] at hop
    have hAg : Ag k st se su tt zz gg vd vg st (upd se k (tgF (upd gg (9 * k + j) 1) (upd hh (9 * k + j) (xs (i0 + 3))) k (gtF gg k 8) xx yy 4).2.2) (upd su k 0) tt zz (dgF (upd gg (9 * k + j) 1) k 9) vd (va_up vg k (flF (upd (vg k) j (xs (i0 + 3))) 0 9)) := fun j' e => ⟨rfl, pk_un e, pk_un e, rfl, rfl, rfl, va_up_ne _ _ e, fun i i1 h => (dgF_out _ h e).trans (pk_un (by omega))⟩
    have hrv := Rv_upd (dd' := dd) (hh' := upd hh (9 * k + j) (xs (i0 + 3))) hv hAg hho ⟨⟨t, z, p1, p2, p3, p4, fun h => absurd pk_us h, p6⟩, fun i h1 h2 h3 => absurd (dgF_in _ k i h2) h3, fun _ i _ h => dgF_in _ k i h, fun h => by omega⟩
    have hg8 : gtF gg k 8 < 8 := by have := gtF_le (upd gg (9 * k + j) 1) k 8; omega
    exact s_giv_open S hX hbl hbA hL hi hcs hl hw1 hmk hk8 h3 h0 hj8 hsc hd1 hgc hc hk8 h3 h0 hj8 hsc hd ht rfl hgv hc hg8 (open_c e7') (open_A e7') (open_B e7') hx hx2 (by rw [ht]) (by rw [ht]) (fun H locs ls hw hl => kk H locs ls ⟨f, n, c0 + 1 + 1, z0, n0, n1, ctr, act, mk, ring, _, _, _, _, bs, sh, C, pu, st, upd se k (tgF (upd gg (9 * k + j) 1) (upd hh (9 * k + j) (xs (i0 + 3))) k (gtF gg k 8) xx yy 4).2.2, upd su k 0, tt, zz, dd, upd hh (9 * k + j) (xs (i0 + 3)), dgF (upd gg (9 * k + j) 1) k 9, _, _, vq, vd, va_up vg k (flF (upd (vg k) j (xs (i0 + 3))) 0 9), (by refine unfocus (v := vfun cI vq st se su tt zz gg vd vg) vfun_app hk (Ag_v hAg) ?_; rw [vfun_at rfl rfl (pk_us.trans hop) pk_us ht rfl (dg_gs _ k) (dg_gt _ k) rfl (va_up_self _ _ _)]; exact hw), hcoin, hc, hb0, hn0, hn1, hm, ha, hrv⟩ hl)
  have hd8 : 0 < d0 ∧ d0 < 100 := ⟨hz, by omega⟩
  by_cases h80 : c0 = 80
  · exact s_giv_full S hX hbl hbA hL hi hcs hl hw1 hmk hk8 h3 h0 hj8 hsc hd1 hgc hd8 h80 hk8 h3 h0 hj8 hsc hd ht rfl hgv hd8 h80 hx hx2 (fun H locs ls hw hl => kk H locs ls ⟨f, n, c0, z0, n0, n1, ctr, act, mk, ring, ks, ns, ds, ss, bs, sh, C, pu, st, se, su, tt, zz, dd, hh, gg, xx, yy, vq, vd, vg, (by refine unfocus (v := vfun cI vq st se su tt zz gg vd vg) vfun_app hk (fun _ _ => rfl) ?_; rw [vfun_at (q := vq k) rfl rfl rfl rfl ht rfl rfl rfl rfl rfl]; exact hw), hcoin, hc0, hb0, hn0, hn1, hm, ha, hv⟩ hl)
  have hc : c0 < 80 := by omega
  have hAg : Ag k st se su tt zz gg vd vg st se su tt zz (upd gg (9 * k + j) 1) vd (va_up vg k (upd (vg k) j (xs (i0 + 3)))) := fun j' e => ⟨rfl, rfl, rfl, rfl, rfl, rfl, va_up_ne _ _ e, fun i i1 h => pk_un (by omega)⟩
  have hrv := Rv_upd (dd' := dd) (hh' := upd hh (9 * k + j) (xs (i0 + 3))) hv hAg hho ⟨⟨t, z, p1, p2, p3, p4, fun _ => by rw [e7']; omega, p6⟩, fun i i1 i2 g => by rw [va_up_self]; exact hvg i i1 i2 g, fun h => absurd h h0, fun h => by omega⟩
  exact s_giv_ok S hX hbl hbA hL hi hcs hl hw1 hmk hk8 h3 h0 hj8 hsc hd1 hgc hd8 hc hk8 h3 h0 hj8 hsc hd ht rfl hgv hd8 hc hx hx2 (fun H locs ls hw hl => kk H locs ls ⟨f, n, c0 + 1, z0, n0, n1, ctr, act, mk, ring, _, _, _, _, bs, sh, C, pu, st, se, su, tt, zz, dd, upd hh (9 * k + j) (xs (i0 + 3)), upd gg (9 * k + j) 1, xx, yy, vq, vd, va_up vg k (upd (vg k) j (xs (i0 + 3))), (by refine unfocus (v := vfun cI vq st se su tt zz gg vd vg) vfun_app hk (Ag_v hAg) ?_; rw [vfun_at rfl rfl rfl rfl ht rfl e6 e7 rfl (va_up_self _ _ _)]; exact hw), hcoin, hc, hb0, hn0, hn1, hm, ha, hrv⟩ hl)

/-! Splitting: the two ways agree. -/
theorem ctF_at (ct y : Nat → Int32) : ∀ n i, ctF ct y n i = if 1 ≤ i ∧ i ≤ n then (ct i <<< ((8 : Int32) &&& 31)) ||| y (i - 1) else ct i
  | 0, i => by rw [if_neg (by omega)]; rfl
  | n + 1, i => by
    show upd (ctF ct y n) (n + 1) ((ctF ct y n (n + 1) <<< ((8 : Int32) &&& 31)) ||| y n) i = _
    by_cases e : i = n + 1
    · subst e; rw [pk_us, if_pos (by omega), ctF_at ct y n (n + 1), if_neg (by omega)]; rfl
    · rw [pk_un e, ctF_at ct y n i]
      by_cases h : 1 ≤ i ∧ i ≤ n
      · rw [if_pos h, if_pos (by omega)]
      · rw [if_neg h, if_neg (by omega)]
theorem cxF_at (x : Nat → Int32) : ∀ k j, cxF x k j = if j < k then fProd (x j) (nI (j + 1)) else x j
  | 0, j => by rw [if_neg (by omega)]; rfl
  | k + 1, j => by
    show upd (cxF x k) k (fProd (cxF x k k) (nI (k + 1))) j = _
    by_cases e : j = k
    · subst e; rw [pk_us, if_pos (by omega), cxF_at x j j, if_neg (by omega)]
    · rw [pk_un e, cxF_at x k j]
      by_cases h : j < k
      · rw [if_pos h, if_pos (by omega)]
      · rw [if_neg h, if_neg (by omega)]
theorem cyF_at (x y : Nat → Int32) (c : Int32) : ∀ k j, cyF x y c k j = if j < k then y j ^^^ fProd c (fProd (x j) (nI (j + 1))) else y j
  | 0, j => by rw [if_neg (by omega)]; rfl
  | k + 1, j => by
    show upd (cyF x y c k) k (cyF x y c k k ^^^ fProd c (upd (cxF x k) k (fProd (cxF x k k) (nI (k + 1))) k)) j = _
    by_cases e : j = k
    · subst e; rw [pk_us, if_pos (by omega), pk_us, cyF_at x y c j j, if_neg (by omega), cxF_at x j j, if_neg (by omega)]
    · rw [pk_un e, cyF_at x y c k j]
      by_cases h : j < k
      · rw [if_pos h, if_pos (by omega)]
      · rw [if_neg h, if_neg (by omega)]
theorem bx_ok {x : Nat → Int32} (hx : ∀ k, k < 8 → x k = 1) : ∀ p k, k < 8 → bxF x p k = nI (pw (k + 1) p)
  | 0, k, hk => hx k hk
  | p + 1, k, hk => by
    show cxF (bxF x p) 8 k = nI (gm (pw (k + 1) p) (k + 1))
    rw [cxF_at, if_pos hk, bx_ok hx p k hk, fProd_gm (pw_lt (by omega) p) (by omega)]
theorem by_ok {x y pu : Nat → Int32} {n b t1 : Nat} {B : Nat → Nat} (hx : ∀ k, k < 8 → x k = 1) (hB : ∀ i, i < t1 + 1 → B i < 256) (hy : ∀ k, k < 8 → y k = nI (B 0)) (hp : ∀ p, p < t1 → pyR pu n (b + p) 0 = nI (B (p + 1))) : ∀ p, p ≤ t1 → ∀ k, k < 8 → byF x y pu n b p k = nI (xsum (fun i => gm (B i) (pw (k + 1) i)) (p + 1))
  | 0, _, k, hk => by
    show y k = nI (0 ^^^ gm (B 0) 1)
    rw [hy k hk, Nat.zero_xor, gm_1r _ (hB 0 (by omega))]
  | p + 1, h, k, hk => by
    show cyF (bxF x p) (byF x y pu n b p) (pyR pu n (b + p) 0) 8 k = nI (xsum (fun i => gm (B i) (pw (k + 1) i)) (p + 1) ^^^ gm (B (p + 1)) (gm (pw (k + 1) p) (k + 1)))
    have h1 := pw_lt (e := k + 1) (by omega) p
    rw [cyF_at, if_pos hk, by_ok hx hB hy hp p (by omega) k hk, bx_ok hx p k hk, hp p (by omega), fProd_gm h1 (by omega), fProd_gm (hB (p + 1) (by omega)) (gm_lt h1 (by omega)), nx_xor]
theorem split_byte {ring pu C x y : Nat → Int32} {f n t1 o : Nat} (hR : Rcoin ring pu f n) (w : Int32) (ho : o < 4) (hn : 4 * t1 ≤ n) (hx : ∀ k, k < 8 → x k = 1) (hy : ∀ k, k < 8 → y k = fByt w (nI o)) {k : Nat} (hk : k < 8) : byF x y pu n (o * t1) t1 k = vaF (ciF (upd C 0 (xushr w (8 * nI (3 - o)) &&& 255)) ring f (o * t1) t1) (nI (k + 1)) (t1 + 1) (t1 + 1) := by
  have hot : o * t1 + t1 ≤ n := by
    have : (o + 1) * t1 ≤ 4 * t1 := Nat.mul_le_mul_right t1 (by omega)
    rw [Nat.add_mul, Nat.one_mul] at this
    omega
  let B : Nat → Nat := fun i => if i = 0 then byt w (3 - o) else toN (pyR pu n (o * t1 + (i - 1)) 0)
  have hp : ∀ p, p < t1 → B (p + 1) < 256 ∧ pyR pu n (o * t1 + p) 0 = nI (B (p + 1)) := fun p hp => by
    obtain ⟨q, hq, e⟩ := Rcoin_byte hR (o * t1 + p) (by omega)
    have : B (p + 1) = toN (pyR pu n (o * t1 + p) 0) := by show (if p + 1 = 0 then _ else _) = _; rw [if_neg (by omega)]; rfl
    rw [this, e, toN_nI (by omega)]
    exact ⟨hq, rfl⟩
  have hB : ∀ i, i < t1 + 1 → B i < 256 ∧ ciF (upd C 0 (xushr w (8 * nI (3 - o)) &&& 255)) ring f (o * t1) t1 i = nI (B i) := fun i hi => by
    rcases i with _ | i
    · refine ⟨by show byt w (3 - o) < 256; exact byt_lt _ _, ?_⟩
      rw [ciF_0, pk_us, byt_u w (by omega)]
      rfl
    · refine ⟨(hp i (by omega)).1, ?_⟩
      rw [ciF_at _ _ _ _ _ _ (by omega), Rcoin_val hR _ (by omega)]
      exact (hp i (by omega)).2
  rw [vaF_hr hB (by omega) (t1 + 1) (Nat.le_refl _), hr_sum (fun i hi => (hB i hi).1) (by omega)]
  exact by_ok hx (fun i hi => (hB i hi).1) (fun k hk => by rw [hy k hk, fByt_ok w ho]; rfl) (fun p h => (hp p h).2) t1 (Nat.le_refl _) k hk
theorem split_eq {ring pu ct C xx yy : Nat → Int32} {f n t1 n2 : Nat} (hR : Rcoin ring pu f n) (w : Int32) (hn : 4 * t1 ≤ n) (h2 : n2 ≤ 8) : ∀ o, o ≤ 4 → (moF ct xx yy pu n t1 n2 w o).1 = (mkG ct C ring f t1 n2 w o).1
  | 0, _ => rfl
  | o + 1, ho => by
    have ih := split_eq (ct := ct) (C := C) (xx := xx) (yy := yy) hR w hn h2 o (by omega)
    funext i
    show ctF (moF ct xx yy pu n t1 n2 w o).1 (byF (flF (moF ct xx yy pu n t1 n2 w o).2.1 1 8) (flF (moF ct xx yy pu n t1 n2 w o).2.2 (fByt w (nI o)) 8) pu n (o * t1) t1) n2 i = shF (mkG ct C ring f t1 n2 w o).1 (ciF (upd (mkG ct C ring f t1 n2 w o).2 0 (xushr w (8 * nI (3 - o)) &&& 255)) ring f (o * t1) t1) (t1 + 1) n2 i
    rw [ctF_at, shF_at, ih]
    by_cases h : 1 ≤ i ∧ i ≤ n2
    · rw [if_pos h, if_pos h]
      obtain ⟨j, rfl⟩ : ∃ j, i = j + 1 := ⟨i - 1, by omega⟩
      rw [Nat.add_sub_cancel, split_byte (C := (mkG ct C ring f t1 n2 w o).2) hR w (by omega) hn (fun k hk => by rw [flF_at, if_pos hk]) (fun k hk => by rw [flF_at, if_pos hk]) (by omega)]
    · rw [if_neg h, if_neg h]
theorem mdF_at (dd ct : Nat → Int32) (v : Nat) : ∀ n j, mdF dd ct v n j = if 9 * v + 1 ≤ j ∧ j ≤ 9 * v + n then fDig (nI (j - 9 * v)) (ct (j - 9 * v)) else dd j
  | 0, j => by rw [if_neg (by omega)]; rfl
  | n + 1, j => by
    show upd (mdF dd ct v n) (9 * v + (n + 1)) (fMix (fMix 5 (nI (n + 1))) (ct (n + 1))) j = _
    by_cases e : j = 9 * v + (n + 1)
    · subst e; rw [pk_us, if_pos (by omega), Nat.add_sub_cancel_left]; rfl
    · rw [pk_un e, mdF_at dd ct v n j]
      by_cases h : 9 * v + 1 ≤ j ∧ j ≤ 9 * v + n
      · rw [if_pos h, if_pos (by omega)]
      · rw [if_neg h, if_neg (by omega)]

set_option maxHeartbeats 4000000 in
set_option maxRecDepth 100000 in
theorem r_split {p : Program} {l : Launch} {e : Env} {s : State} {m : MethodId} {args : Array Value} {below : List Frame} {meth : Method} {c : Code} {Q : State → Prop} {D : va_G} {A : Nat → Prop} {cI cZ cV : ClassId} {H : Heap} {locs : List Loc} {ls : Array Slot} {cells slots : Nat} (S : CallFix p m c code 4 s args xAll "EscrowedVersionsLaw") {sb L : Nat} {xs : Nat → Int32} (hX : va_X sb L xs s s.heap) (hbl : sb < s.heap.size) (hbA : ¬ A sb) (hL : L ≤ 2048) {i0 : Nat} (hi : i0 + 3 < L) (hcs : cells + 3 ≤ 600000 ∧ slots + 28 ≤ 7302250) {a : Nat → Nat} (hS : St a D A cI cZ cV s H locs) (hl : lv_has ls 4 [(0, .ref sb), (1, .ref (a 0)), (2, .ref (a 14)), (3, .int (nI i0))]) (kk : ∀ (H : Heap) (locs : List Loc) (ls : Array Slot), St a D A cI cZ cV s H locs → lv_has ls 4 [(0, .ref sb), (1, .ref (a 0)), (2, .ref (a 14)), (3, .int (nI i0))] → W p l e room_1 s m args below meth c H locs (cells + 3) (slots + 28) Q (F0 m 582 ls [])) : W p l e room_1 s m args below meth c H locs cells slots Q (F0 m 229 ls []) := by
  obtain ⟨f, n, c0, z0, n0, n1, ctr, act, mk, ring, ks, ns, ds, ss, bs, sh, C, pu, st, se, su, tt, zz, dd, hh, gg, xx, yy, vq, vd, vg, hw, hcoin, hc0, hb0, hn0, hn1, hm, ha, hv⟩ := hS
  rcases idx_of (xs (i0 + 1)) (n := n1) (by omega) with h | ⟨k, hk, hx⟩
  · exact s_spl_no S hX hbl hbA hL hi hcs hl hw h h (fun H locs ls hw hl => kk H locs ls ⟨_, _, _, _, _, _, _, _, _, _, _, _, _, _, _, _, _, _, _, _, _, _, _, _, _, _, _, _, _, _, _, hw, hcoin, hc0, hb0, hn0, hn1, hm, ha, hv⟩ hl)
  have hk8 : k < n1 ∧ n1 ≤ 8 := ⟨hk, hn1⟩
  have hmk := hm k hk
  have hw1 := focus vfun_app hk hw
  by_cases hE : fIsE (xs (i0 + 2)) (xs (i0 + 3)) = 0
  · exact s_spl_bad S hX hbl hbA hL hi hcs hl hw1 hmk hk8 hE hk8 hE hx (fun H locs ls hw hl => kk H locs ls ⟨f, n, c0, z0, n0, n1, ctr, act, mk, ring, ks, ns, ds, ss, bs, sh, C, pu, st, se, su, tt, zz, dd, hh, gg, xx, yy, vq, vd, vg, unfocus (v := vfun cI vq st se su tt zz gg vd vg) vfun_app hk (fun _ _ => rfl) hw, hcoin, hc0, hb0, hn0, hn1, hm, ha, hv⟩ hl)
  by_cases h3 : st k = 3
  · exact s_spl_gone S hX hbl hbA hL hi hcs hl hw1 hmk hk8 hE h3 hk8 hE h3 hx (fun H locs ls hw hl => kk H locs ls ⟨f, n, c0, z0, n0, n1, ctr, act, mk, ring, ks, ns, ds, ss, bs, sh, C, pu, st, se, su, tt, zz, dd, hh, gg, xx, yy, vq, vd, vg, unfocus (v := vfun cI vq st se su tt zz gg vd vg) vfun_app hk (fun _ _ => rfl) hw, hcoin, hc0, hb0, hn0, hn1, hm, ha, hv⟩ hl)
  by_cases h0 : ¬ su k = 0
  · exact s_spl_lock S hX hbl hbA hL hi hcs hl hw1 hmk hk8 hE h3 h0 hk8 hE h3 h0 hx (fun H locs ls hw hl => kk H locs ls ⟨f, n, c0, z0, n0, n1, ctr, act, mk, ring, ks, ns, ds, ss, bs, sh, C, pu, st, se, su, tt, zz, dd, hh, gg, xx, yy, vq, vd, vg, unfocus (v := vfun cI vq st se su tt zz gg vd vg) vfun_app hk (fun _ _ => rfl) hw, hcoin, hc0, hb0, hn0, hn1, hm, ha, hv⟩ hl)
  have h0 : su k = 0 := Decidable.byContradiction h0
  by_cases h80 : c0 = 80
  · exact s_spl_full S hX hbl hbA hL hi hcs hl hw1 hmk hk8 hE h3 h0 h80 hk8 hE h3 h0 h80 hx (fun H locs ls hw hl => kk H locs ls ⟨f, n, c0, z0, n0, n1, ctr, act, mk, ring, ks, ns, ds, ss, bs, sh, C, pu, st, se, su, tt, zz, dd, hh, gg, xx, yy, vq, vd, vg, unfocus (v := vfun cI vq st se su tt zz gg vd vg) vfun_app hk (fun _ _ => rfl) hw, hcoin, hc0, hb0, hn0, hn1, hm, ha, hv⟩ hl)
  have hc : c0 < 80 := by omega
  obtain ⟨t1, n2, hx2, hx3, ht⟩ : ∃ t1 n2 : Nat, xs (i0 + 2) = nI (t1 + 1) ∧ xs (i0 + 3) = nI n2 ∧ t1 + 1 ≤ n2 ∧ n2 ≤ 8 := by
    obtain ⟨e1, e2, e3⟩ := isE_of hE
    obtain ⟨t, ht, et⟩ := nI_of (x := xs (i0 + 2)) (fun z => e1 (Int32.lt_trans z (by decide)))
    rw [et] at e1 e2
    have t1 : ¬ t < 1 := fun z => e1 (nI_lt (a := t) (b := 1) z (by decide))
    obtain ⟨n', hn', en⟩ := nI_of (x := xs (i0 + 3)) (fun z => e2 (Int32.lt_of_lt_of_le z (nI_pos' ht)))
    rw [en] at e2 e3
    have n1 : ¬ n' < t := fun z => e2 (nI_lt z ht)
    have n8 : ¬ 8 < n' := fun z => e3 (nI_lt (a := 8) (b := n') z hn')
    exact ⟨t - 1, n', by rw [et, Nat.sub_add_cancel (by omega)], en, by omega, by omega⟩
  rw [hx2, hx3] at hE
  rcases Nat.lt_or_ge n (4 * t1) with hlt | hge
  · exact s_spl_coins S hX hbl hbA hL hi hcs hl hw1 hmk hk8 hE h3 h0 hc ht hlt hk8 hE h3 h0 hc ht hlt hx hx2 hx3 (fun H locs ls hw hl => kk H locs ls ⟨f, n, c0, z0, n0, n1, ctr, act, mk, ring, ks, ns, ds, ss, bs, sh, C, pu, st, se, su, tt, zz, dd, hh, gg, xx, yy, vq, vd, vg, unfocus (v := vfun cI vq st se su tt zz gg vd vg) vfun_app hk (fun _ _ => rfl) hw, hcoin, hc0, hb0, hn0, hn1, hm, ha, hv⟩ hl)
  obtain ⟨n, rfl⟩ := Nat.exists_eq_add_of_le' hge
  have h64 := hcoin.2.1
  have hsp := split_eq (ct := flF sh 0 9) (C := C) (xx := xx) (yy := yy) (n2 := n2) hcoin (se k) (by omega) ht.2 4 (Nat.le_refl 4)
  have hAg : Ag k st se su tt zz gg vd vg st se su (upd tt k (nI (t1 + 1))) (upd zz k (nI n2)) gg (va_up vd k (teF (flF (vd k) 0 9) (mkG (flF sh 0 9) C ring f t1 n2 (se k) 4).1 n2)) vg := fun j' e => ⟨rfl, rfl, rfl, pk_un e, pk_un e, va_up_ne _ _ e, rfl, fun i i1 h => rfl⟩
  obtain ⟨-, q5, r5, -⟩ := hv k (by omega)
  have hrv := Rv_upd (dd' := mdF dd (mkG (flF sh 0 9) C ring f t1 n2 (se k) 4).1 k n2) (hh' := hh) hv hAg (fun j' e i i1 i2 => ⟨by rw [mdF_at, if_neg (by omega)], rfl⟩) ⟨⟨t1 + 1, n2, pk_us, pk_us, ht.1, ht.2, fun h => absurd h0 h, fun i i1 i2 => by rw [va_up_self, teF_at, if_pos ⟨i1, i2⟩, mdF_at, if_pos (by omega), Nat.add_sub_cancel_left]⟩, q5, r5, fun h => by omega⟩
  exact s_spl_ok S hX hbl hbA hL hi hcs hl hw1 hmk hk8 hE h3 h0 hc ht hcoin.1 h64 hk8 hE h3 h0 hc ht h64 hx hx2 hx3 hsp (fun H locs ls hw hl => kk H locs ls ⟨(f + 4 * t1) % 64, n, c0 + 1, z0, n2, n1, ctr, act, mk, tkR ring f (4 * t1), _, _, _, _, bs, (mkG (flF sh 0 9) C ring f t1 n2 (se k) 4).1, _, pyR pu (n + 4 * t1) (4 * t1), st, se, su, upd tt k (nI (t1 + 1)), upd zz k (nI n2), mdF dd (mkG (flF sh 0 9) C ring f t1 n2 (se k) 4).1 k n2, hh, gg, _, _, vq, va_up vd k (teF (flF (vd k) 0 9) (mkG (flF sh 0 9) C ring f t1 n2 (se k) 4).1 n2), vg, (by refine unfocus (v := vfun cI vq st se su tt zz gg vd vg) vfun_app hk (Ag_v hAg) ?_; rw [vfun_at rfl rfl rfl rfl pk_us pk_us rfl rfl (va_up_self _ _ _) rfl]; exact hw), (by have := Rcoin_takes hcoin (4 * t1) (by omega); rw [Nat.add_sub_cancel] at this; exact this), hc, hb0, ht.2, hn1, hm, ha, hrv⟩ hl)
