theorem pbF_at (bs : Nat → Int32) (z m : Nat) (x : Int32) : ∀ k j, pbF bs z m x k j = if z ≤ j ∧ j < z + k then xushr x (8 * nI (m - 1 - (j - z))) &&& 255 else bs j
  | 0, j => by rw [if_neg (by omega)]; rfl
  | k + 1, j => by
    show upd (pbF bs z m x k) (z + k) _ j = _
    by_cases e : j = z + k
    · subst e; rw [pk_us, if_pos (by omega), Nat.add_sub_cancel_left]
    · rw [pk_un e, pbF_at bs z m x k j]
      by_cases h : z ≤ j ∧ j < z + k
      · rw [if_pos h, if_pos (by omega)]
      · rw [if_neg h, if_neg (by omega)]
theorem and_b (x : Int32) : ∃ b, b < 256 ∧ x &&& 255 = nI b := pk_andE x 8 (by decide)
theorem small_255 {k : Nat} (h : k < 256) : nI k &&& 255 = nI k := by
  apply b_ext
  intro i hi
  rw [b_and, b_255, bt_nI]
  by_cases q : i < 8
  · simp [q]
  · have : k.testBit i = false := tb_ge h (by omega)
    simp [this]
theorem shr_0 (x : Int32) : xushr x (8 * nI 0) = x := by
  apply b_ext
  intro i hi
  have := b_ushr 0 (by decide) x i
  rw [Nat.zero_add] at this
  exact this
theorem tag_hi (x : Int32) : (x &&& 65535) >>> ((8 : Int32) &&& 31) = xushr (x &&& 65535) (8 * nI 1) &&& 255 := by
  apply b_ext
  intro i hi
  have h2 : bt (xushr (x &&& 65535) (8 * nI 1)) i = bt (x &&& 65535) (8 + i) := b_ushr 8 (by decide) _ i
  rw [b_sshr8 _ hi]
  simp only [b_and, h2, b_65535, b_255]
  by_cases q : 8 + i < 32
  · rw [if_pos q]
    by_cases q2 : i < 8
    · simp [q2]
    · have : ¬ 8 + i < 16 := by omega
      simp [this, q2]
  · rw [if_neg q]
    have : ¬ 8 + i < 16 := by omega
    simp [this]
theorem wrap_bs (bs : Nat → Int32) (k0 : Nat) (hk : k0 < 8) (ctr b x : Int32) : upd (upd (wbF (upd (upd (upd bs 0 (nI k0)) 1 ((ctr >>> ((8 : Int32) &&& 31)) &&& 255)) 2 (ctr &&& 255)) b 4) 7 ((x &&& 65535) >>> ((8 : Int32) &&& 31))) 8 ((x &&& 65535) &&& 255) = pbF (pbF (pbF (pbF bs 0 1 (nI k0) 1) (0 + 1) 2 ctr 2) (0 + 1 + 2) 4 b 4) ((0 + 1 + 2) + 4) 2 (x &&& 65535) 2 := by
  funext j
  rw [pbF_at, pbF_at, pbF_at, pbF_at]
  show upd (upd (upd (upd (upd (upd (upd (upd (upd bs 0 (nI k0)) 1 ((ctr >>> ((8 : Int32) &&& 31)) &&& 255)) 2 (ctr &&& 255)) (3 + 0) (fByt b (nI 0))) (3 + 1) (fByt b (nI 1))) (3 + 2) (fByt b (nI 2))) (3 + 3) (fByt b (nI 3))) 7 ((x &&& 65535) >>> ((8 : Int32) &&& 31))) 8 ((x &&& 65535) &&& 255) j = _
  by_cases h8 : j = 8
  · subst h8; rw [pk_us, if_pos (by omega), show 2 - 1 - (8 - (0 + 1 + 2 + 4)) = 0 from rfl, shr_0]
  rw [pk_un h8]
  by_cases h7 : j = 7
  · subst h7; rw [pk_us, if_pos (by omega), show 2 - 1 - (7 - (0 + 1 + 2 + 4)) = 1 from rfl, tag_hi]
  rw [pk_un h7, if_neg (by omega)]
  by_cases h6 : j = 3 + 3
  · subst h6; rw [pk_us, if_pos (by omega), show 4 - 1 - (3 + 3 - (0 + 1 + 2)) = 0 from rfl, fByt_ok b (by decide), byt_u b (by decide)]
  rw [pk_un h6]
  by_cases h5 : j = 3 + 2
  · subst h5; rw [pk_us, if_pos (by omega), show 4 - 1 - (3 + 2 - (0 + 1 + 2)) = 1 from rfl, fByt_ok b (by decide), byt_u b (by decide)]
  rw [pk_un h5]
  by_cases h4 : j = 3 + 1
  · subst h4; rw [pk_us, if_pos (by omega), show 4 - 1 - (3 + 1 - (0 + 1 + 2)) = 2 from rfl, fByt_ok b (by decide), byt_u b (by decide)]
  rw [pk_un h4]
  by_cases h3 : j = 3 + 0
  · subst h3; rw [pk_us, if_pos (by omega), show 4 - 1 - (3 + 0 - (0 + 1 + 2)) = 3 from rfl, fByt_ok b (by decide), byt_u b (by decide)]
  rw [pk_un h3, if_neg (by omega)]
  by_cases h2 : j = 2
  · subst h2; rw [pk_us, if_pos (by omega), show 2 - 1 - (2 - (0 + 1)) = 0 from rfl, shr_0]
  rw [pk_un h2]
  by_cases h1 : j = 1
  · subst h1; rw [pk_us, if_pos (by omega), show 2 - 1 - (1 - (0 + 1)) = 1 from rfl, byt_u ctr (by decide)]
    exact byt_s ctr (j := 1) (by decide)
  rw [pk_un h1, if_neg (by omega)]
  by_cases h0 : j = 0
  · subst h0; rw [pk_us, if_pos (by omega), show 1 - 1 - (0 - 0) = 0 from rfl, shr_0, small_255 (by omega)]
  rw [pk_un h0, if_neg (by omega)]
theorem wrap_Rb (bs : Nat → Int32) (k c b x : Int32) : Rb (((0 + 1 + 2) + 4) + 2) (pbF (pbF (pbF (pbF bs 0 1 k 1) (0 + 1) 2 c 2) (0 + 1 + 2) 4 b 4) ((0 + 1 + 2) + 4) 2 x 2) := by
  refine ⟨by omega, fun j hj => ?_⟩
  rw [pbF_at, pbF_at, pbF_at, pbF_at]
  by_cases h1 : 0 + 1 + 2 + 4 ≤ j ∧ j < 0 + 1 + 2 + 4 + 2
  · rw [if_pos h1]; exact and_b _
  rw [if_neg h1]
  by_cases h2 : 0 + 1 + 2 ≤ j ∧ j < 0 + 1 + 2 + 4
  · rw [if_pos h2]; exact and_b _
  rw [if_neg h2]
  by_cases h3 : 0 + 1 ≤ j ∧ j < 0 + 1 + 2
  · rw [if_pos h3]; exact and_b _
  rw [if_neg h3, if_pos (by omega)]
  exact and_b _

theorem vfun_old {cI : ClassId} {vq vq' : Nat → Nat → Nat} {st se su tt zz gg st' se' su' tt' zz' gg' : Nat → Int32} {vd vg vd' vg' : Nat → Nat → Int32} {j : Nat} (h0 : vq' j = vq j) (h1 : st' j = st j) (h2 : se' j = se j) (h3 : su' j = su j) (h4 : tt' j = tt j) (h5 : zz' j = zz j) (h6 : gg' = gg) (h8 : vd' j = vd j) (h9 : vg' j = vg j) : vfun cI vq st se su tt zz gg vd vg j = vfun cI vq' st' se' su' tt' zz' gg' vd' vg' j := by
  subst h6
  funext tl
  unfold vfun
  rw [h0, h1, h2, h3, h4, h5, h8, h9]

set_option maxHeartbeats 4000000 in
set_option maxRecDepth 100000 in
theorem r_wrap {p : Program} {l : Launch} {e : Env} {s : State} {m : MethodId} {args : Array Value} {below : List Frame} {meth : Method} {c : Code} {Q : State → Prop} {D : va_G} {A : Nat → Prop} {cI cZ cV : ClassId} {H : Heap} {locs : List Loc} {ls : Array Slot} {cells slots : Nat} (S : CallFix p m c code 4 s args xAll "EscrowedVersionsLaw") {sb L : Nat} {xs : Nat → Int32} (hX : va_X sb L xs s s.heap) (hbl : sb < s.heap.size) (hbA : ¬ A sb) (hL : L ≤ 2048) {i0 : Nat} (hi : i0 + 3 < L) (hcs : cells + 3 ≤ 600000 ∧ slots + 28 ≤ 7302250) {a : Nat → Nat} (hS : St a D A cI cZ cV s H locs) (hl : lv_has ls 4 [(0, .ref sb), (1, .ref (a 0)), (2, .ref (a 14)), (3, .int (nI i0))]) (kk : ∀ (H : Heap) (locs : List Loc) (ls : Array Slot), St a D A cI cZ cV s H locs → lv_has ls 4 [(0, .ref sb), (1, .ref (a 0)), (2, .ref (a 14)), (3, .int (nI i0))] → W p l e room_1 s m args below meth c H locs (cells + 3) (slots + 28) Q (F0 m 582 ls [])) : W p l e room_1 s m args below meth c H locs cells slots Q (F0 m 361 ls []) := by
  obtain ⟨f, n, c0, z0, n0, n1, ctr, act, mk, ring, ks, ns, ds, ss, bs, sh, C, pu, st, se, su, tt, zz, dd, hh, gg, xx, yy, vq, vd, vg, hw, hcoin, hc0, hb0, hn0, hn1, hm, ha, hv⟩ := hS
  rcases ha with ⟨rfl, hall⟩ | ⟨k, hk, rfl, h1, hall⟩
  · exact s_wra_none S hX hbl hbA hL hi hcs hl hw hn1 hall (fun H locs ls hw hl => kk H locs ls ⟨_, _, _, _, _, _, _, _, _, _, _, _, _, _, _, _, _, _, _, _, _, _, _, _, _, _, _, _, _, _, _, hw, hcoin, hc0, hb0, hn0, hn1, hm, (Or.inl ⟨rfl, hall⟩), hv⟩ hl)
  have hk8 : k < n1 ∧ n1 ≤ 8 := ⟨hk, hn1⟩
  have hw1 := focus vfun_app hk hw
  have hbef : ∀ v, v < k → ¬ st v = 1 := fun v hv => hall v (by omega) (by omega)
  by_cases h0 : ¬ su k = 0
  · exact s_wra_lock S hX hbl hbA hL hi hcs hl hw1 h0 hk8 h1 hbef h0 (fun H locs ls hw hl => kk H locs ls ⟨f, n, c0, z0, n0, n1, ctr, (some (vq k 0)), mk, ring, ks, ns, ds, ss, bs, sh, C, pu, st, se, su, tt, zz, dd, hh, gg, xx, yy, vq, vd, vg, unfocus (v := vfun cI vq st se su tt zz gg vd vg) vfun_app hk (fun _ _ => rfl) hw, hcoin, hc0, hb0, hn0, hn1, hm, (Or.inr ⟨k, hk, rfl, h1, hall⟩), hv⟩ hl)
  have h0 : su k = 0 := Decidable.byContradiction h0
  exact s_wra_ok S hX hbl hbA hL hi hcs hl hw1 h0 hk8 h1 hbef h0 rfl (wrap_bs bs k (by omega) ctr _ _) (fun H locs ls hw hl => kk H locs ls ⟨f, n, c0, _, n0, n1, _, (some (vq k 0)), mk, ring, ks, ns, ds, ss, _, sh, C, pu, st, se, su, tt, zz, dd, hh, gg, xx, yy, vq, vd, vg, unfocus (v := vfun cI vq st se su tt zz gg vd vg) vfun_app hk (fun _ _ => rfl) hw, hcoin, hc0, (wrap_Rb bs _ _ _ _), hn0, hn1, hm, (Or.inr ⟨k, hk, rfl, h1, hall⟩), hv⟩ hl)

def vn (x y z : Nat) : Nat → Nat
  | 0 => x
  | 1 => y
  | _ => z
theorem vcs_congr {v v' : Nat → va_W → va_W} : ∀ (n : Nat) (tl : va_W), (∀ j, j < n → v j = v' j) → vcs v n tl = vcs v' n tl
  | 0, _, _ => rfl
  | n + 1, tl, h => by
    show v n (vcs v n tl) = v' n (vcs v' n tl)
    rw [vcs_congr n tl (fun j hj => h j (by omega)), h n (by omega)]
theorem rt_ti {ring pu : Nat → Int32} {f n : Nat} (h : Rcoin ring pu f (n + 4)) : ∀ k, k ≤ 4 → rtF pu (n + 4) k = tiF ring f k
  | 0, _ => rfl
  | k + 1, hk => by
    show (rtF pu (n + 4) k <<< ((8 : Int32) &&& 31)) ||| pyR pu (n + 4) k 0 = (tiF ring f k <<< ((8 : Int32) &&& 31)) ||| tkR ring f k ((f + k) % 64)
    rw [rt_ti h k (by omega), Rcoin_val h k (by omega)]
theorem Rv_mono {n1 : Nat} {su tt zz dd hh gg : Nat → Int32} {vd vg : Nat → Nat → Int32} (h : Rv n1 su tt zz dd hh gg vd vg) : Rv (n1 + 1) su tt zz dd hh gg vd vg := by
  intro k hk
  obtain ⟨p, q, r, u⟩ := h k hk
  exact ⟨p, q, r, fun g => u (by omega)⟩
theorem Ra_new {n1 : Nat} {st : Nat → Int32} {vq : Nat → Nat → Nat} {q : Nat → Nat} (h : ∀ k, k < n1 → ¬ st k = 1) : Ra (n1 + 1) (some (q 0)) (upd st n1 1) (va_up vq n1 q) := by
  refine Or.inr ⟨n1, by omega, by rw [va_up_self], pk_us, fun j hj e => ?_⟩
  rw [pk_un e]
  exact h j (by omega)

set_option maxHeartbeats 4000000 in
set_option maxRecDepth 100000 in
theorem r_rotate {p : Program} {l : Launch} {e : Env} {s : State} {m : MethodId} {args : Array Value} {below : List Frame} {meth : Method} {c : Code} {Q : State → Prop} {D : va_G} {A : Nat → Prop} {cI cZ cV : ClassId} {H : Heap} {locs : List Loc} {ls : Array Slot} {cells slots : Nat} (S : CallFix p m c code 4 s args xAll "EscrowedVersionsLaw") {sb L : Nat} {xs : Nat → Int32} (hX : va_X sb L xs s s.heap) (hbl : sb < s.heap.size) (hbA : ¬ A sb) (hL : L ≤ 2048) {i0 : Nat} (hi : i0 + 3 < L) (hcs : cells + 3 ≤ 600000 ∧ slots + 28 ≤ 7302250) {a : Nat → Nat} (hS : St a D A cI cZ cV s H locs) (hl : lv_has ls 4 [(0, .ref sb), (1, .ref (a 0)), (2, .ref (a 14)), (3, .int (nI i0))]) (kk : ∀ (H : Heap) (locs : List Loc) (ls : Array Slot), St a D A cI cZ cV s H locs → lv_has ls 4 [(0, .ref sb), (1, .ref (a 0)), (2, .ref (a 14)), (3, .int (nI i0))] → W p l e room_1 s m args below meth c H locs (cells + 3) (slots + 28) Q (F0 m 582 ls [])) : W p l e room_1 s m args below meth c H locs cells slots Q (F0 m 193 ls []) := by
  obtain ⟨f, n, c0, z0, n0, n1, ctr, act, mk, ring, ks, ns, ds, ss, bs, sh, C, pu, st, se, su, tt, zz, dd, hh, gg, xx, yy, vq, vd, vg, hw, hcoin, hc0, hb0, hn0, hn1, hm, ha, hv⟩ := hS
  by_cases h8 : n1 = 8
  · exact s_rot_full1 S hX hbl hbA hL hi hcs hl hw h8 h8 (fun H locs ls hw hl => kk H locs ls ⟨_, _, _, _, _, _, _, _, _, _, _, _, _, _, _, _, _, _, _, _, _, _, _, _, _, _, _, _, _, _, _, hw, hcoin, hc0, hb0, hn0, hn1, hm, ha, hv⟩ hl)
  have hn : n1 < 8 := by omega
  by_cases h80 : c0 = 80
  · exact s_rot_full2 S hX hbl hbA hL hi hcs hl hw hn h80 hn h80 (fun H locs ls hw hl => kk H locs ls ⟨_, _, _, _, _, _, _, _, _, _, _, _, _, _, _, _, _, _, _, _, _, _, _, _, _, _, _, _, _, _, _, hw, hcoin, hc0, hb0, hn0, hn1, hm, ha, hv⟩ hl)
  have hc : c0 < 80 := by omega
  rcases Nat.lt_or_ge n 4 with h4 | h4
  · exact s_rot_coins S hX hbl hbA hL hi hcs hl hw hn hc h4 hn hc h4 (fun H locs ls hw hl => kk H locs ls ⟨_, _, _, _, _, _, _, _, _, _, _, _, _, _, _, _, _, _, _, _, _, _, _, _, _, _, _, _, _, _, _, hw, hcoin, hc0, hb0, hn0, hn1, hm, ha, hv⟩ hl)
  obtain ⟨n, rfl⟩ := Nat.exists_eq_add_of_le' h4
  have hn60 : n ≤ 60 := by have := hcoin.2.1; omega
  obtain ⟨-, -, u, w⟩ := hv n1 hn
  obtain ⟨u1, u2, u3⟩ := w (Nat.le_refl n1)
  have hz0 := u u3
  have hAg : Ag n1 st se su tt zz gg vd vg st (upd se n1 (rtF pu (n + 4) 4)) su tt zz gg (va_up vd n1 (fun _ => 0)) (va_up vg n1 (fun _ => 0)) := fun j e => ⟨rfl, pk_un e, rfl, rfl, rfl, va_up_ne _ _ e, va_up_ne _ _ e, fun _ _ _ => rfl⟩
  have hrv := Rv_mono (Rv_upd (dd' := dd) (hh' := hh) hv hAg (fun _ _ _ _ _ => ⟨rfl, rfl⟩) ⟨⟨0, 0, u1, u2, Nat.le_refl 0, by omega, fun h => absurd u3 h, fun i h1 h2 => by omega⟩, fun i h1 h2 h3 => absurd (hz0 i h1 h2) h3, fun _ => hz0, fun _ => ⟨u1, u2, u3⟩⟩)
  rcases ha with ⟨rfl, hall⟩ | ⟨k, hk, rfl, h1, hall⟩
  · refine s_rot_none S hX hbl hbA hL hi hcs hl hw hn hc hcoin.1 hn60 hn hc hn60 hall (fun x0 x1 x2 H locs ls hw hl => ?_)
    refine kk H locs ls ⟨(f + 4) % 64, n, c0 + 1, z0, n0, n1 + 1, ctr, some x0, va_up mk n1 (some x0), tkR ring f 4, upd ks c0 1, upd ns c0 (nI n1), upd ds c0 0, upd ss c0 (fMix (fMix (fMix (jBef ss c0) 1) (nI n1)) 0), bs, sh, C, pyR pu (n + 4) 4, upd st n1 1, upd se n1 (rtF pu (n + 4) 4), su, tt, zz, dd, hh, gg, xx, yy, va_up vq n1 (vn x0 x1 x2), va_up vd n1 (fun _ => 0), va_up vg n1 (fun _ => 0), ?_, (Rcoin_takes hcoin 4 (by omega)), hc, hb0, hn0, hn, (Rm_set hm (q := vn x0 x1 x2)), Ra_new (q := vn x0 x1 x2) hall, hrv⟩ hl
    show xW D (xT3 cI cZ cV) A s.heap H locs (bigX _ _ _ _ _ _ _ _ _ _ _ _ _ _ _ _ _ _ _ _ _ _ _ _ _ _ _ _ _ _ _ _ (vfun _ _ _ _ _ _ _ _ _ _ n1 (vcs _ n1 []))) s
    rw [vfun_at (q := vn x0 x1 x2) (va_up_self _ _ _) pk_us (pk_us.trans (rt_ti hcoin 4 (Nat.le_refl 4))) u3 u1 u2 (show nI (gsF gg n1 8) = 0 by rw [gsF_0 8 hz0]; rfl) (show nI (gtF gg n1 8) = 0 by rw [gtF_0 8 hz0]; rfl) (va_up_self _ _ _) (va_up_self _ _ _)]
    rw [← vcs_congr (v := vfun cI vq st se su tt zz gg vd vg) n1 [] (fun j hj => vfun_old (va_up_ne _ _ (by omega)) (pk_un (by omega)) (pk_un (by omega)) rfl rfl rfl rfl (va_up_ne _ _ (by omega)) (va_up_ne _ _ (by omega)))]
    exact hw
  have hw1 := focus vfun_app hk hw
  have hbef : ∀ v, v < k → ¬ st v = 1 := fun v hv => hall v (by omega) (by omega)
  have hall2 : ∀ j, j < n1 → ¬ upd st k 2 j = 1 := fun j hj => by
    by_cases e : j = k
    · subst e; rw [pk_us]; decide
    · rw [pk_un e]; exact hall j hj e
  have e1 : nI (k + 1) = 1 + nI k := by rw [show (1 : Int32) = nI 1 from rfl, nI_add, Nat.add_comm]
  refine s_rot_some S hX hbl hbA hL hi hcs hl hw1 hn hc hcoin.1 hn60 hn hc hn60 hk h1 hbef (by rw [e1]) (by rw [e1]) (fun x0 x1 x2 H locs ls hw hl => ?_)
  refine kk H locs ls ⟨(f + 4) % 64, n, c0 + 1, z0, n0, n1 + 1, ctr, some x0, va_up mk n1 (some x0), tkR ring f 4, upd ks c0 1, upd ns c0 (nI n1), upd ds c0 (1 + nI k), upd ss c0 (fMix (fMix (fMix (jBef ss c0) 1) (nI n1)) (1 + nI k)), bs, sh, C, pyR pu (n + 4) 4, upd (upd st k 2) n1 1, upd se n1 (rtF pu (n + 4) 4), su, tt, zz, dd, hh, gg, xx, yy, va_up vq n1 (vn x0 x1 x2), va_up vd n1 (fun _ => 0), va_up vg n1 (fun _ => 0), ?_, (Rcoin_takes hcoin 4 (by omega)), hc, hb0, hn0, hn, (Rm_set hm (q := vn x0 x1 x2)), Ra_new (q := vn x0 x1 x2) hall2, hrv⟩ hl
  refine unfocus (k := k) (nn := n1 + 1) (v := vfun cI (va_up vq n1 (vn x0 x1 x2)) (upd (upd st k 2) n1 1) (upd se n1 (rtF pu (n + 4) 4)) su tt zz gg (va_up vd n1 (fun _ => 0)) (va_up vg n1 (fun _ => 0))) vfun_app (by omega) (fun _ _ => rfl) ?_
  rw [show vcx (vfun cI (va_up vq n1 (vn x0 x1 x2)) (upd (upd st k 2) n1 1) (upd se n1 (rtF pu (n + 4) 4)) su tt zz gg (va_up vd n1 (fun _ => 0)) (va_up vg n1 (fun _ => 0))) k (n1 + 1) [] = vfun cI (va_up vq n1 (vn x0 x1 x2)) (upd (upd st k 2) n1 1) (upd se n1 (rtF pu (n + 4) 4)) su tt zz gg (va_up vd n1 (fun _ => 0)) (va_up vg n1 (fun _ => 0)) n1 (vcx (vfun cI (va_up vq n1 (vn x0 x1 x2)) (upd (upd st k 2) n1 1) (upd se n1 (rtF pu (n + 4) 4)) su tt zz gg (va_up vd n1 (fun _ => 0)) (va_up vg n1 (fun _ => 0))) k n1 []) from if_neg (by omega)]
  rw [vfun_at (q := vn x0 x1 x2) (va_up_self _ _ _) pk_us (pk_us.trans (rt_ti hcoin 4 (Nat.le_refl 4))) u3 u1 u2 (show nI (gsF gg n1 8) = 0 by rw [gsF_0 8 hz0]; rfl) (show nI (gtF gg n1 8) = 0 by rw [gtF_0 8 hz0]; rfl) (va_up_self _ _ _) (va_up_self _ _ _)]
  rw [← vcx_congr (v := vfun cI vq st se su tt zz gg vd vg) n1 [] (fun j hj e => vfun_old (va_up_ne _ _ (by omega)) ((pk_un (by omega)).trans (pk_un e)) (pk_un (by omega)) rfl rfl rfl rfl (va_up_ne _ _ (by omega)) (va_up_ne _ _ (by omega)))]
  rw [vfun_at (q := vq k) (va_up_ne _ _ (by omega)) ((pk_un (by omega)).trans pk_us) (pk_un (by omega)) rfl rfl rfl rfl rfl (va_up_ne _ _ (by omega)) (va_up_ne _ _ (by omega))]
  exact hw
