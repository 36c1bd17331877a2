/-! Steps that touch one version. -/
theorem Ra_set {n1 k : Nat} {act : Option Nat} {st : Nat → Int32} {vq : Nat → Nat → Nat} {x : Int32} (h : Ra n1 act st vq) (h1 : ¬ st k = 1) (hx : ¬ x = 1) : Ra n1 act (upd st k x) vq := by
  rcases h with ⟨e, g⟩ | ⟨k', hk', e, e1, g⟩
  · refine Or.inl ⟨e, fun j hj => ?_⟩
    by_cases q : j = k
    · subst q; rw [pk_us]; exact hx
    · rw [pk_un q]; exact g j hj
  · refine Or.inr ⟨k', hk', e, ?_, fun j hj q' => ?_⟩
    · have q : k' ≠ k := fun z => h1 (by rw [← z]; exact e1)
      rw [pk_un q]; exact e1
    · by_cases q : j = k
      · subst q; rw [pk_us]; exact hx
      · rw [pk_un q]; exact g j hj q'
theorem Ra_off {n1 k : Nat} {act : Option Nat} {st : Nat → Int32} {vq : Nat → Nat → Nat} {x : Int32} (h : Ra n1 act st vq) (hk : k < n1) (h1 : st k = 1) (hx : ¬ x = 1) : Ra n1 none (upd st k x) vq := by
  rcases h with ⟨e, g⟩ | ⟨k', hk', e, e1, g⟩
  · exact absurd h1 (g k hk)
  · refine Or.inl ⟨rfl, fun j hj => ?_⟩
    by_cases q : j = k
    · subst q; rw [pk_us]; exact hx
    · rw [pk_un q]
      have : k = k' := Decidable.byContradiction (fun z => g k hk z h1)
      subst this
      exact g j hj q
theorem vfun_at {cI : ClassId} {vq : Nat → Nat → Nat} {st se su tt zz gg : Nat → Int32} {vd vg : Nat → Nat → Int32} {k : Nat} {tl : va_W} {q : Nat → Nat} {d g : Nat → Int32} {x1 x2 x3 x4 x5 x6 x7 : Int32} (h0 : vq k = q) (h1 : st k = x1) (h2 : se k = x2) (h3 : su k = x3) (h4 : tt k = x4) (h5 : zz k = x5) (h6 : nI (gsF gg k 8) = x6) (h7 : nI (gtF gg k 8) = x7) (h8 : vd k = d) (h9 : vg k = g) : vfun cI vq st se su tt zz gg vd vg k tl = verX cI (q 0) (q 1) (q 2) k d g x1 x2 x3 x4 x5 x6 x7 tl := by
  unfold vfun
  rw [h0, h1, h2, h3, h4, h5, h6, h7, h8, h9]
theorem Rm_set {n1 : Nat} {mk : Nat → Option Nat} {vq : Nat → Nat → Nat} (h : Rm n1 mk vq) {q : Nat → Nat} : Rm (n1 + 1) (va_up mk n1 (some (q 0))) (va_up vq n1 q) := by
  intro k hk
  by_cases e : k = n1
  · subst e; rw [va_up_self, va_up_self]
  · rw [va_up_ne _ _ e, va_up_ne _ _ e]; exact h k (by omega)
set_option maxHeartbeats 4000000 in
set_option maxRecDepth 100000 in
theorem r_destroy {p : Program} {l : Launch} {e : Env} {s : State} {m : MethodId} {args : Array Value} {below : List Frame} {meth : Method} {c : Code} {Q : State → Prop} {D : va_G} {A : Nat → Prop} {cI cZ cV : ClassId} {H : Heap} {locs : List Loc} {ls : Array Slot} {cells slots : Nat} (S : CallFix p m c code 4 s args xAll "EscrowedVersionsLaw") {sb L : Nat} {xs : Nat → Int32} (hX : va_X sb L xs s s.heap) (hbl : sb < s.heap.size) (hbA : ¬ A sb) (hL : L ≤ 2048) {i0 : Nat} (hi : i0 + 3 < L) (hcs : cells + 3 ≤ 600000 ∧ slots + 28 ≤ 7302250) {a : Nat → Nat} (hS : St a D A cI cZ cV s H locs) (hl : lv_has ls 4 [(0, .ref sb), (1, .ref (a 0)), (2, .ref (a 14)), (3, .int (nI i0))]) (kk : ∀ (H : Heap) (locs : List Loc) (ls : Array Slot), St a D A cI cZ cV s H locs → lv_has ls 4 [(0, .ref sb), (1, .ref (a 0)), (2, .ref (a 14)), (3, .int (nI i0))] → W p l e room_1 s m args below meth c H locs (cells + 3) (slots + 28) Q (F0 m 582 ls [])) : W p l e room_1 s m args below meth c H locs cells slots Q (F0 m 206 ls []) := by
  obtain ⟨f, n, c0, z0, n0, n1, ctr, act, mk, ring, ks, ns, ds, ss, bs, sh, C, pu, st, se, su, tt, zz, dd, hh, gg, xx, yy, vq, vd, vg, hw, hcoin, hc0, hb0, hn0, hn1, hm, ha, hv⟩ := hS
  rcases idx_of (xs (i0 + 1)) (n := n1) (by omega) with h | ⟨k, hk, hx⟩
  · exact s_des_no S hX hbl hbA hL hi hcs hl hw h h (fun H locs ls hw hl => kk H locs ls ⟨_, _, _, _, _, _, _, _, _, _, _, _, _, _, _, _, _, _, _, _, _, _, _, _, _, _, _, _, _, _, _, hw, hcoin, hc0, hb0, hn0, hn1, hm, ha, hv⟩ hl)
  have hk8 : k < n1 ∧ n1 ≤ 8 := ⟨hk, hn1⟩
  have hmk := hm k hk
  have hw1 := focus vfun_app hk hw
  by_cases h3 : st k = 3
  · exact s_des_gone S hX hbl hbA hL hi hcs hl hw1 hmk hk8 h3 hk8 h3 hx (fun H locs ls hw hl => kk H locs ls ⟨f, n, c0, z0, n0, n1, ctr, act, mk, ring, ks, ns, ds, ss, bs, sh, C, pu, st, se, su, tt, zz, dd, hh, gg, xx, yy, vq, vd, vg, unfocus (v := vfun cI vq st se su tt zz gg vd vg) vfun_app hk (fun _ _ => rfl) hw, hcoin, hc0, hb0, hn0, hn1, hm, ha, hv⟩ hl)
  by_cases h80 : c0 = 80
  · exact s_des_full S hX hbl hbA hL hi hcs hl hw1 hmk hk8 h3 h80 hk8 h3 h80 hx (fun H locs ls hw hl => kk H locs ls ⟨f, n, c0, z0, n0, n1, ctr, act, mk, ring, ks, ns, ds, ss, bs, sh, C, pu, st, se, su, tt, zz, dd, hh, gg, xx, yy, vq, vd, vg, unfocus (v := vfun cI vq st se su tt zz gg vd vg) vfun_app hk (fun _ _ => rfl) hw, hcoin, hc0, hb0, hn0, hn1, hm, ha, hv⟩ hl)
  have hc : c0 < 80 := by omega
  have hAg : Ag k st se su tt zz gg vd vg (upd st k 3) (upd se k 0) (upd su k 0) (upd tt k 0) (upd zz k 0) (dgF gg k 9) (va_up vd k (flF (vd k) 0 9)) (va_up vg k (flF (vg k) 0 9)) := fun j e => ⟨pk_un e, pk_un e, pk_un e, pk_un e, pk_un e, va_up_ne _ _ e, va_up_ne _ _ e, fun i _ h => dgF_out gg h e⟩
  have hrv := Rv_upd (dd' := dd) (hh' := hh) hv hAg (fun _ _ _ _ _ => ⟨rfl, rfl⟩) ⟨⟨0, 0, pk_us, pk_us, Nat.le_refl 0, by omega, fun h => absurd pk_us h, fun i h1 h2 => by omega⟩, fun i h1 h2 h3 => absurd (dgF_in gg k i h2) h3, fun _ i _ h => dgF_in gg k i h, fun h => by omega⟩
  by_cases h1 : st k = 1
  · exact s_des_act S hX hbl hbA hL hi hcs hl hw1 hmk hk8 h3 h1 hc hk8 h3 hc hx rfl rfl rfl (fun H locs ls hw hl => kk H locs ls ⟨f, n, c0 + 1, z0, n0, n1, ctr, none, mk, ring, _, _, _, _, bs, sh, C, pu, upd st k 3, upd se k 0, upd su k 0, upd tt k 0, upd zz k 0, dd, hh, dgF gg k 9, xx, yy, vq, va_up vd k (flF (vd k) 0 9), va_up vg k (flF (vg k) 0 9), (by refine unfocus (v := vfun cI vq st se su tt zz gg vd vg) vfun_app hk (Ag_v hAg) ?_; rw [vfun_at rfl pk_us pk_us pk_us pk_us pk_us (dg_gs gg k) (dg_gt gg k) (va_up_self _ _ _) (va_up_self _ _ _)]; exact hw), hcoin, hc, hb0, hn0, hn1, hm, (Ra_off ha hk h1 (by decide)), hrv⟩ hl)
  · exact s_des_ok S hX hbl hbA hL hi hcs hl hw1 hmk hk8 h3 h1 hc hk8 h3 hc hx rfl rfl rfl (fun H locs ls hw hl => kk H locs ls ⟨f, n, c0 + 1, z0, n0, n1, ctr, act, mk, ring, _, _, _, _, bs, sh, C, pu, upd st k 3, upd se k 0, upd su k 0, upd tt k 0, upd zz k 0, dd, hh, dgF gg k 9, xx, yy, vq, va_up vd k (flF (vd k) 0 9), va_up vg k (flF (vg k) 0 9), (by refine unfocus (v := vfun cI vq st se su tt zz gg vd vg) vfun_app hk (Ag_v hAg) ?_; rw [vfun_at rfl pk_us pk_us pk_us pk_us pk_us (dg_gs gg k) (dg_gt gg k) (va_up_self _ _ _) (va_up_self _ _ _)]; exact hw), hcoin, hc, hb0, hn0, hn1, hm, (Ra_set ha h1 (by decide)), hrv⟩ hl)

set_option maxHeartbeats 4000000 in
set_option maxRecDepth 100000 in
theorem r_lock {p : Program} {l : Launch} {e : Env} {s : State} {m : MethodId} {args : Array Value} {below : List Frame} {meth : Method} {c : Code} {Q : State → Prop} {D : va_G} {A : Nat → Prop} {cI cZ cV : ClassId} {H : Heap} {locs : List Loc} {ls : Array Slot} {cells slots : Nat} (S : CallFix p m c code 4 s args xAll "EscrowedVersionsLaw") {sb L : Nat} {xs : Nat → Int32} (hX : va_X sb L xs s s.heap) (hbl : sb < s.heap.size) (hbA : ¬ A sb) (hL : L ≤ 2048) {i0 : Nat} (hi : i0 + 3 < L) (hcs : cells + 3 ≤ 600000 ∧ slots + 28 ≤ 7302250) {a : Nat → Nat} (hS : St a D A cI cZ cV s H locs) (hl : lv_has ls 4 [(0, .ref sb), (1, .ref (a 0)), (2, .ref (a 14)), (3, .int (nI i0))]) (kk : ∀ (H : Heap) (locs : List Loc) (ls : Array Slot), St a D A cI cZ cV s H locs → lv_has ls 4 [(0, .ref sb), (1, .ref (a 0)), (2, .ref (a 14)), (3, .int (nI i0))] → W p l e room_1 s m args below meth c H locs (cells + 3) (slots + 28) Q (F0 m 582 ls [])) : W p l e room_1 s m args below meth c H locs cells slots Q (F0 m 295 ls []) := by
  obtain ⟨f, n, c0, z0, n0, n1, ctr, act, mk, ring, ks, ns, ds, ss, bs, sh, C, pu, st, se, su, tt, zz, dd, hh, gg, xx, yy, vq, vd, vg, hw, hcoin, hc0, hb0, hn0, hn1, hm, ha, hv⟩ := hS
  rcases idx_of (xs (i0 + 1)) (n := n1) (by omega) with h | ⟨k, hk, hx⟩
  · exact s_loc_no S hX hbl hbA hL hi hcs hl hw h h (fun H locs ls hw hl => kk H locs ls ⟨_, _, _, _, _, _, _, _, _, _, _, _, _, _, _, _, _, _, _, _, _, _, _, _, _, _, _, _, _, _, _, hw, hcoin, hc0, hb0, hn0, hn1, hm, ha, hv⟩ hl)
  have hk8 : k < n1 ∧ n1 ≤ 8 := ⟨hk, hn1⟩
  have hmk := hm k hk
  have hw1 := focus vfun_app hk hw
  by_cases h3 : st k = 3
  · exact s_loc_gone S hX hbl hbA hL hi hcs hl hw1 hmk hk8 h3 hk8 h3 hx (fun H locs ls hw hl => kk H locs ls ⟨f, n, c0, z0, n0, n1, ctr, act, mk, ring, ks, ns, ds, ss, bs, sh, C, pu, st, se, su, tt, zz, dd, hh, gg, xx, yy, vq, vd, vg, unfocus (v := vfun cI vq st se su tt zz gg vd vg) vfun_app hk (fun _ _ => rfl) hw, hcoin, hc0, hb0, hn0, hn1, hm, ha, hv⟩ hl)
  by_cases h0 : ¬ su k = 0
  · exact s_loc_lock S hX hbl hbA hL hi hcs hl hw1 hmk hk8 h3 h0 hk8 h3 h0 hx (fun H locs ls hw hl => kk H locs ls ⟨f, n, c0, z0, n0, n1, ctr, act, mk, ring, ks, ns, ds, ss, bs, sh, C, pu, st, se, su, tt, zz, dd, hh, gg, xx, yy, vq, vd, vg, unfocus (v := vfun cI vq st se su tt zz gg vd vg) vfun_app hk (fun _ _ => rfl) hw, hcoin, hc0, hb0, hn0, hn1, hm, ha, hv⟩ hl)
  have h0 : su k = 0 := Decidable.byContradiction h0
  by_cases ht : tt k = 0
  · exact s_loc_state S hX hbl hbA hL hi hcs hl hw1 hmk hk8 h3 h0 ht hk8 h3 h0 ht hx (fun H locs ls hw hl => kk H locs ls ⟨f, n, c0, z0, n0, n1, ctr, act, mk, ring, ks, ns, ds, ss, bs, sh, C, pu, st, se, su, tt, zz, dd, hh, gg, xx, yy, vq, vd, vg, unfocus (v := vfun cI vq st se su tt zz gg vd vg) vfun_app hk (fun _ _ => rfl) hw, hcoin, hc0, hb0, hn0, hn1, hm, ha, hv⟩ hl)
  by_cases h80 : c0 = 80
  · exact s_loc_full S hX hbl hbA hL hi hcs hl hw1 hmk hk8 h3 h0 ht h80 hk8 h3 h0 ht h80 hx (fun H locs ls hw hl => kk H locs ls ⟨f, n, c0, z0, n0, n1, ctr, act, mk, ring, ks, ns, ds, ss, bs, sh, C, pu, st, se, su, tt, zz, dd, hh, gg, xx, yy, vq, vd, vg, unfocus (v := vfun cI vq st se su tt zz gg vd vg) vfun_app hk (fun _ _ => rfl) hw, hcoin, hc0, hb0, hn0, hn1, hm, ha, hv⟩ hl)
  have hc : c0 < 80 := by omega
  have hAg : Ag k st se su tt zz gg vd vg st (upd se k 0) (upd su k 1) tt zz (dgF gg k 9) vd (va_up vg k (flF (vg k) 0 9)) := fun j e => ⟨rfl, pk_un e, pk_un e, rfl, rfl, rfl, va_up_ne _ _ e, fun i _ h => dgF_out gg h e⟩
  obtain ⟨⟨t, z, p1, p2, p3, p4, p5, p6⟩, -, -, -⟩ := hv k (by omega)
  have ht0 : 0 < t := Nat.pos_of_ne_zero (fun q => ht (by rw [p1, q]; rfl))
  have hrv := Rv_upd (dd' := dd) (hh' := hh) hv hAg (fun _ _ _ _ _ => ⟨rfl, rfl⟩) ⟨⟨t, z, p1, p2, p3, p4, fun h => by rw [gtF_0 8 (fun i _ h => dgF_in gg k i h)]; exact ht0, p6⟩, fun i h1 h2 h3 => absurd (dgF_in gg k i h2) h3, fun h => by rw [pk_us] at h; exact absurd h (by decide), fun h => by omega⟩
  exact s_loc_ok S hX hbl hbA hL hi hcs hl hw1 hmk hk8 h3 h0 ht hc hk8 h3 h0 ht hc hx rfl (fun H locs ls hw hl => kk H locs ls ⟨f, n, c0 + 1, z0, n0, n1, ctr, act, mk, ring, _, _, _, _, bs, sh, C, pu, st, upd se k 0, upd su k 1, tt, zz, dd, hh, dgF gg k 9, xx, yy, vq, vd, va_up vg k (flF (vg k) 0 9), (by refine unfocus (v := vfun cI vq st se su tt zz gg vd vg) vfun_app hk (Ag_v hAg) ?_; rw [vfun_at rfl rfl pk_us pk_us rfl rfl (dg_gs gg k) (dg_gt gg k) rfl (va_up_self _ _ _)]; exact hw), hcoin, hc, hb0, hn0, hn1, hm, ha, hrv⟩ hl)

set_option maxHeartbeats 4000000 in
set_option maxRecDepth 100000 in
theorem r_version {p : Program} {l : Launch} {e : Env} {s : State} {m : MethodId} {args : Array Value} {below : List Frame} {meth : Method} {c : Code} {Q : State → Prop} {D : va_G} {A : Nat → Prop} {cI cZ cV : ClassId} {H : Heap} {locs : List Loc} {ls : Array Slot} {cells slots : Nat} (S : CallFix p m c code 4 s args xAll "EscrowedVersionsLaw") {sb L : Nat} {xs : Nat → Int32} (hX : va_X sb L xs s s.heap) (hbl : sb < s.heap.size) (hbA : ¬ A sb) (hL : L ≤ 2048) {i0 : Nat} (hi : i0 + 3 < L) (hcs : cells + 3 ≤ 600000 ∧ slots + 28 ≤ 7302250) {a : Nat → Nat} (hS : St a D A cI cZ cV s H locs) (hl : lv_has ls 4 [(0, .ref sb), (1, .ref (a 0)), (2, .ref (a 14)), (3, .int (nI i0))]) (kk : ∀ (H : Heap) (locs : List Loc) (ls : Array Slot), St a D A cI cZ cV s H locs → lv_has ls 4 [(0, .ref sb), (1, .ref (a 0)), (2, .ref (a 14)), (3, .int (nI i0))] → W p l e room_1 s m args below meth c H locs (cells + 3) (slots + 28) Q (F0 m 582 ls [])) : W p l e room_1 s m args below meth c H locs cells slots Q (F0 m 490 ls []) := by
  obtain ⟨f, n, c0, z0, n0, n1, ctr, act, mk, ring, ks, ns, ds, ss, bs, sh, C, pu, st, se, su, tt, zz, dd, hh, gg, xx, yy, vq, vd, vg, hw, hcoin, hc0, hb0, hn0, hn1, hm, ha, hv⟩ := hS
  rcases idx_of (xs (i0 + 1)) (n := n1) (by omega) with h | ⟨k, hk, hx⟩
  · exact s_ver_no S hX hbl hbA hL hi hcs hl hw h h (fun H locs ls hw hl => kk H locs ls ⟨_, _, _, _, _, _, _, _, _, _, _, _, _, _, _, _, _, _, _, _, _, _, _, _, _, _, _, _, _, _, _, hw, hcoin, hc0, hb0, hn0, hn1, hm, ha, hv⟩ hl)
  have hk8 : k < n1 ∧ n1 ≤ 8 := ⟨hk, hn1⟩
  have hmk := hm k hk
  have hw1 := focus vfun_app hk hw
  by_cases t0 : xs (i0 + 2) = 0
  · exact s_ver_0 S hX hbl hbA hL hi hcs hl hw1 hmk hk8 hk8 hx t0 rfl (fun H locs ls hw hl => kk H locs ls ⟨f, n, c0, z0, n0, n1, ctr, act, mk, ring, ks, ns, ds, ss, bs, sh, C, pu, st, se, su, tt, zz, dd, hh, gg, xx, yy, vq, vd, vg, unfocus (v := vfun cI vq st se su tt zz gg vd vg) vfun_app hk (fun _ _ => rfl) hw, hcoin, hc0, hb0, hn0, hn1, hm, ha, hv⟩ hl)
  by_cases t1 : xs (i0 + 2) = 1
  · by_cases h0 : su k = 0
    · exact s_ver_1a S hX hbl hbA hL hi hcs hl hw1 hmk hk8 h0 hk8 h0 hx t1 (fun H locs ls hw hl => kk H locs ls ⟨f, n, c0, z0, n0, n1, ctr, act, mk, ring, ks, ns, ds, ss, bs, sh, C, pu, st, se, su, tt, zz, dd, hh, gg, xx, yy, vq, vd, vg, unfocus (v := vfun cI vq st se su tt zz gg vd vg) vfun_app hk (fun _ _ => rfl) hw, hcoin, hc0, hb0, hn0, hn1, hm, ha, hv⟩ hl)
    · exact s_ver_1b S hX hbl hbA hL hi hcs hl hw1 hmk hk8 h0 hk8 h0 hx t1 (fun H locs ls hw hl => kk H locs ls ⟨f, n, c0, z0, n0, n1, ctr, act, mk, ring, ks, ns, ds, ss, bs, sh, C, pu, st, se, su, tt, zz, dd, hh, gg, xx, yy, vq, vd, vg, unfocus (v := vfun cI vq st se su tt zz gg vd vg) vfun_app hk (fun _ _ => rfl) hw, hcoin, hc0, hb0, hn0, hn1, hm, ha, hv⟩ hl)
  by_cases t2 : xs (i0 + 2) = 2
  · exact s_ver_2 S hX hbl hbA hL hi hcs hl hw1 hmk hk8 hk8 hx t2 rfl (fun H locs ls hw hl => kk H locs ls ⟨f, n, c0, z0, n0, n1, ctr, act, mk, ring, ks, ns, ds, ss, bs, sh, C, pu, st, se, su, tt, zz, dd, hh, gg, xx, yy, vq, vd, vg, unfocus (v := vfun cI vq st se su tt zz gg vd vg) vfun_app hk (fun _ _ => rfl) hw, hcoin, hc0, hb0, hn0, hn1, hm, ha, hv⟩ hl)
  by_cases t3 : xs (i0 + 2) = 3
  · exact s_ver_3 S hX hbl hbA hL hi hcs hl hw1 hmk hk8 hk8 hx t3 rfl (fun H locs ls hw hl => kk H locs ls ⟨f, n, c0, z0, n0, n1, ctr, act, mk, ring, ks, ns, ds, ss, bs, sh, C, pu, st, se, su, tt, zz, dd, hh, gg, xx, yy, vq, vd, vg, unfocus (v := vfun cI vq st se su tt zz gg vd vg) vfun_app hk (fun _ _ => rfl) hw, hcoin, hc0, hb0, hn0, hn1, hm, ha, hv⟩ hl)
  have ho : (xs (i0 + 2)).toInt < 0 ∨ 3 < (xs (i0 + 2)).toInt := by
    have g0 := lv_neT t0 (a := 0) (by decide)
    have g1 := lv_neT t1 (a := 1) (by decide)
    have g2 := lv_neT t2 (a := 2) (by decide)
    have g3 := lv_neT t3 (a := 3) (by decide)
    omega
  have ho2 : xs (i0 + 2) < 0 ∨ 3 < xs (i0 + 2) := ho.imp (fun z => Int32.lt_iff_toInt_lt.mpr z) (fun z => Int32.lt_iff_toInt_lt.mpr z)
  exact s_ver_out S hX hbl hbA hL hi hcs hl hw1 hmk hk8 ho hk8 ho2 hx (fun H locs ls hw hl => kk H locs ls ⟨f, n, c0, z0, n0, n1, ctr, act, mk, ring, ks, ns, ds, ss, bs, sh, C, pu, st, se, su, tt, zz, dd, hh, gg, xx, yy, vq, vd, vg, unfocus (v := vfun cI vq st se su tt zz gg vd vg) vfun_app hk (fun _ _ => rfl) hw, hcoin, hc0, hb0, hn0, hn1, hm, ha, hv⟩ hl)

theorem nb_1 {bs : Nat → Int32} {b : Nat} (h : bs 0 = nI b) (hb : b < 256) : nbF bs 0 1 = bs 0 := by
  show ((0 : Int32) <<< ((8 : Int32) &&& 31)) ||| bs (0 + 0) = bs 0
  rw [show (0 : Int32) <<< ((8 : Int32) &&& 31) = 0 from by decide]
  apply b_ext
  intro i hi
  rw [b_or, b_0]
  rfl
theorem nb_2 {bs : Nat → Int32} {i a b : Nat} (h1 : bs i = nI a) (ha : a < 256) (h2 : bs (i + 1) = nI b) (hb : b < 256) : nbF bs i 2 = 256 * bs i + bs (i + 1) := by
  show ((((0 : Int32) <<< ((8 : Int32) &&& 31)) ||| bs (i + 0)) <<< ((8 : Int32) &&& 31)) ||| bs (i + 1) = _
  rw [show (0 : Int32) <<< ((8 : Int32) &&& 31) = 0 from by decide, show bs (i + 0) = nI a from h1, h1, h2, show (256 : Int32) * nI a = nI (256 * a) from pk_mul 256 a, nI_add]
  apply b_ext
  intro j hj
  rw [b_or, b_shl8 _ hj, b_or, b_0, bt_nI, bt_nI, bt_nI]
  have e := Nat.testBit_two_pow_mul_add (i := 8) a (b := b) hb j
  rw [show (2 : Nat) ^ 8 * a + b = 256 * a + b from rfl] at e
  rw [e]
  by_cases q : j < 8
  · simp [q, hj, Nat.not_le.mpr q]
  · have q2 : 8 ≤ j := by omega
    have q3 : j - 8 < 32 := by omega
    have : b.testBit j = false := tb_ge hb q2
    simp [q, hj, q2, this, q3]

set_option maxHeartbeats 4000000 in
set_option maxRecDepth 100000 in
theorem r_unwrap {p : Program} {l : Launch} {e : Env} {s : State} {m : MethodId} {args : Array Value} {below : List Frame} {meth : Method} {c : Code} {Q : State → Prop} {D : va_G} {A : Nat → Prop} {cI cZ cV : ClassId} {H : Heap} {locs : List Loc} {ls : Array Slot} {cells slots : Nat} (S : CallFix p m c code 4 s args xAll "EscrowedVersionsLaw") {sb L : Nat} {xs : Nat → Int32} (hX : va_X sb L xs s s.heap) (hbl : sb < s.heap.size) (hbA : ¬ A sb) (hL : L ≤ 2048) {i0 : Nat} (hi : i0 + 3 < L) (hcs : cells + 3 ≤ 600000 ∧ slots + 28 ≤ 7302250) {a : Nat → Nat} (hS : St a D A cI cZ cV s H locs) (hl : lv_has ls 4 [(0, .ref sb), (1, .ref (a 0)), (2, .ref (a 14)), (3, .int (nI i0))]) (kk : ∀ (H : Heap) (locs : List Loc) (ls : Array Slot), St a D A cI cZ cV s H locs → lv_has ls 4 [(0, .ref sb), (1, .ref (a 0)), (2, .ref (a 14)), (3, .int (nI i0))] → W p l e room_1 s m args below meth c H locs (cells + 3) (slots + 28) Q (F0 m 582 ls [])) : W p l e room_1 s m args below meth c H locs cells slots Q (F0 m 384 ls []) := by
  obtain ⟨f, n, c0, z0, n0, n1, ctr, act, mk, ring, ks, ns, ds, ss, bs, sh, C, pu, st, se, su, tt, zz, dd, hh, gg, xx, yy, vq, vd, vg, hw, hcoin, hc0, hb0, hn0, hn1, hm, ha, hv⟩ := hS
  by_cases hz : ¬ nI z0 = 9
  · exact s_unw_shape S hX hbl hbA hL hi hcs hl hw hz hz (fun H locs ls hw hl => kk H locs ls ⟨_, _, _, _, _, _, _, _, _, _, _, _, _, _, _, _, _, _, _, _, _, _, _, _, _, _, _, _, _, _, _, hw, hcoin, hc0, hb0, hn0, hn1, hm, ha, hv⟩ hl)
  have hz : nI z0 = 9 := Decidable.byContradiction hz
  have hz9 : z0 = 9 := (nI_eq (b := 9) (by have := hb0.1; omega) (by decide)).mp hz
  have hbb : ∀ j, j < 9 → ∃ b, b < 256 ∧ bs j = nI b := fun j hj => hb0.2 j (by omega)
  obtain ⟨b0, q0, e0⟩ := hbb 0 (by decide)
  obtain ⟨b1, q1, e1⟩ := hbb 1 (by decide)
  obtain ⟨b2, q2, e2⟩ := hbb 2 (by decide)
  obtain ⟨b7, q7, e7⟩ := hbb 7 (by decide)
  obtain ⟨b8, q8, e8⟩ := hbb 8 (by decide)
  have m0 : nbF bs 0 1 = bs 0 := nb_1 e0 q0
  have mm1 : nbF bs 1 2 = 256 * bs 1 + bs 2 := nb_2 e1 q1 e2 q2
  have n7 : nbF bs 7 2 = 256 * bs 7 + bs 8 := nb_2 e7 q7 e8 q8
  rcases idx_of (bs 0) (n := n1) (by omega) with h | ⟨k, hk, hx⟩
  · exact s_unw_no S hX hbl hbA hL hi hcs hl hw hz (by rw [m0]; exact h) hz h (fun H locs ls hw hl => kk H locs ls ⟨_, _, _, _, _, _, _, _, _, _, _, _, _, _, _, _, _, _, _, _, _, _, _, _, _, _, _, _, _, _, _, hw, hcoin, hc0, hb0, hn0, hn1, hm, ha, hv⟩ hl)
  have hk8 : k < n1 ∧ n1 ≤ 8 := ⟨hk, hn1⟩
  have hmk := hm k hk
  have hw1 := focus vfun_app hk hw
  have hb := m0.trans hx
  by_cases h3 : st k = 3
  · exact s_unw_gone S hX hbl hbA hL hi hcs hl hw1 hmk hk8 hz hb h3 hz hx hk8 h3 (fun H locs ls hw hl => kk H locs ls ⟨f, n, c0, z0, n0, n1, ctr, act, mk, ring, ks, ns, ds, ss, bs, sh, C, pu, st, se, su, tt, zz, dd, hh, gg, xx, yy, vq, vd, vg, unfocus (v := vfun cI vq st se su tt zz gg vd vg) vfun_app hk (fun _ _ => rfl) hw, hcoin, hc0, hb0, hn0, hn1, hm, ha, hv⟩ hl)
  by_cases h0 : ¬ su k = 0
  · exact s_unw_lock S hX hbl hbA hL hi hcs hl hw1 hmk hk8 hz hb h3 h0 hz hx hk8 h3 h0 (fun H locs ls hw hl => kk H locs ls ⟨f, n, c0, z0, n0, n1, ctr, act, mk, ring, ks, ns, ds, ss, bs, sh, C, pu, st, se, su, tt, zz, dd, hh, gg, xx, yy, vq, vd, vg, unfocus (v := vfun cI vq st se su tt zz gg vd vg) vfun_app hk (fun _ _ => rfl) hw, hcoin, hc0, hb0, hn0, hn1, hm, ha, hv⟩ hl)
  have h0 : su k = 0 := Decidable.byContradiction h0
  by_cases hg : 256 * bs 7 + bs 8 = fTag (se k) (256 * bs 1 + bs 2) (nbF bs 3 4)
  · exact s_unw_ok S hX hbl hbA hL hi hcs hl hw1 hmk hk8 hz hb h3 h0 (by rw [n7, mm1]; exact hg) hz hx hk8 h3 h0 hg (by rw [mm1]) (fun H locs ls hw hl => kk H locs ls ⟨f, n, c0, z0, n0, n1, ctr, act, mk, ring, ks, ns, ds, ss, bs, sh, C, pu, st, se, su, tt, zz, dd, hh, gg, xx, yy, vq, vd, vg, unfocus (v := vfun cI vq st se su tt zz gg vd vg) vfun_app hk (fun _ _ => rfl) hw, hcoin, hc0, hb0, hn0, hn1, hm, ha, hv⟩ hl)
  · exact s_unw_forg S hX hbl hbA hL hi hcs hl hw1 hmk hk8 hz hb h3 h0 (by rw [n7, mm1]; exact hg) hz hx hk8 h3 h0 hg (fun H locs ls hw hl => kk H locs ls ⟨f, n, c0, z0, n0, n1, ctr, act, mk, ring, ks, ns, ds, ss, bs, sh, C, pu, st, se, su, tt, zz, dd, hh, gg, xx, yy, vq, vd, vg, unfocus (v := vfun cI vq st se su tt zz gg vd vg) vfun_app hk (fun _ _ => rfl) hw, hcoin, hc0, hb0, hn0, hn1, hm, ha, hv⟩ hl)
