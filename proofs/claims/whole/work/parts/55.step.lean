set_option maxHeartbeats 4000000 in
set_option maxRecDepth 100000 in
theorem r_coin {p : Program} {l : Launch} {e : Env} {s : State} {m : MethodId} {args : Array Value} {below : List Frame} {meth : Method} {c : Code} {Q : State → Prop} {D : va_G} {A : Nat → Prop} {cI cZ cV : ClassId} {H : Heap} {locs : List Loc} {ls : Array Slot} {cells slots : Nat} (S : CallFix p m c code 4 s args xAll "EscrowedVersionsLaw") {sb L : Nat} {xs : Nat → Int32} (hX : va_X sb L xs s s.heap) (hbl : sb < s.heap.size) (hbA : ¬ A sb) (hL : L ≤ 2048) {i0 : Nat} (hi : i0 + 3 < L) (hcs : cells + 3 ≤ 600000 ∧ slots + 28 ≤ 7302250) {a : Nat → Nat} (hS : St a D A cI cZ cV s H locs) (hl : lv_has ls 4 [(0, .ref sb), (1, .ref (a 0)), (2, .ref (a 14)), (3, .int (nI i0))]) (kk : ∀ (H : Heap) (locs : List Loc) (ls : Array Slot), St a D A cI cZ cV s H locs → lv_has ls 4 [(0, .ref sb), (1, .ref (a 0)), (2, .ref (a 14)), (3, .int (nI i0))] → W p l e room_1 s m args below meth c H locs (cells + 3) (slots + 28) Q (F0 m 582 ls [])) : W p l e room_1 s m args below meth c H locs cells slots Q (F0 m 124 ls []) := by
  obtain ⟨f, n, c0, z0, n0, n1, ctr, act, mk, ring, ks, ns, ds, ss, bs, sh, C, pu, st, se, su, tt, zz, dd, hh, gg, xx, yy, vq, vd, vg, hw, hcoin, hc0, hb0, hn0, hn1, hm, ha, hv⟩ := hS
  by_cases hb : fIsB (xs (i0 + 1)) = 0
  · exact s_coin_bad S hX hbl hbA hL hi hcs hl hw hb hb (fun H locs ls hw hl => kk H locs ls ⟨_, _, _, _, _, _, _, _, _, _, _, _, _, _, _, _, _, _, _, _, _, _, _, _, _, _, _, _, _, _, _, hw, hcoin, hc0, hb0, hn0, hn1, hm, ha, hv⟩ hl)
  · rcases Nat.lt_or_ge n 64 with h | h
    · obtain ⟨b, hb1, hb2⟩ := byte_of hb
      exact s_coin_ok S hX hbl hbA hL hi hcs hl hw hb h hcoin.1 hb h (fun H locs ls hw hl => kk H locs ls ⟨_, _, _, _, _, _, _, _, _, _, _, _, _, _, _, _, _, _, _, _, _, _, _, _, _, _, _, _, _, _, _, hw, (by rw [hb2]; exact Rcoin_put hcoin h hb1), hc0, hb0, hn0, hn1, hm, ha, hv⟩ hl)
    · have h64 : n = 64 := Nat.le_antisymm hcoin.2.1 h
      exact s_coin_full S hX hbl hbA hL hi hcs hl hw hb h64 hb h64 (fun H locs ls hw hl => kk H locs ls ⟨_, _, _, _, _, _, _, _, _, _, _, _, _, _, _, _, _, _, _, _, _, _, _, _, _, _, _, _, _, _, _, hw, hcoin, hc0, hb0, hn0, hn1, hm, ha, hv⟩ hl)

set_option maxHeartbeats 4000000 in
set_option maxRecDepth 100000 in
theorem r_coins {p : Program} {l : Launch} {e : Env} {s : State} {m : MethodId} {args : Array Value} {below : List Frame} {meth : Method} {c : Code} {Q : State → Prop} {D : va_G} {A : Nat → Prop} {cI cZ cV : ClassId} {H : Heap} {locs : List Loc} {ls : Array Slot} {cells slots : Nat} (S : CallFix p m c code 4 s args xAll "EscrowedVersionsLaw") {sb L : Nat} {xs : Nat → Int32} (hX : va_X sb L xs s s.heap) (hbl : sb < s.heap.size) (hbA : ¬ A sb) (hL : L ≤ 2048) {i0 : Nat} (hi : i0 + 3 < L) (hcs : cells + 3 ≤ 600000 ∧ slots + 28 ≤ 7302250) {a : Nat → Nat} (hS : St a D A cI cZ cV s H locs) (hl : lv_has ls 4 [(0, .ref sb), (1, .ref (a 0)), (2, .ref (a 14)), (3, .int (nI i0))]) (kk : ∀ (H : Heap) (locs : List Loc) (ls : Array Slot), St a D A cI cZ cV s H locs → lv_has ls 4 [(0, .ref sb), (1, .ref (a 0)), (2, .ref (a 14)), (3, .int (nI i0))] → W p l e room_1 s m args below meth c H locs (cells + 3) (slots + 28) Q (F0 m 582 ls [])) : W p l e room_1 s m args below meth c H locs cells slots Q (F0 m 147 ls []) := by
  obtain ⟨f, n, c0, z0, n0, n1, ctr, act, mk, ring, ks, ns, ds, ss, bs, sh, C, pu, st, se, su, tt, zz, dd, hh, gg, xx, yy, vq, vd, vg, hw, hcoin, hc0, hb0, hn0, hn1, hm, ha, hv⟩ := hS
  exact s_coins S hX hbl hbA hL hi hcs hl hw (fun H locs ls hw hl => kk H locs ls ⟨_, _, _, _, _, _, _, _, _, _, _, _, _, _, _, _, _, _, _, _, _, _, _, _, _, _, _, _, _, _, _, hw, hcoin, hc0, hb0, hn0, hn1, hm, ha, hv⟩ hl)

set_option maxHeartbeats 4000000 in
set_option maxRecDepth 100000 in
theorem r_length {p : Program} {l : Launch} {e : Env} {s : State} {m : MethodId} {args : Array Value} {below : List Frame} {meth : Method} {c : Code} {Q : State → Prop} {D : va_G} {A : Nat → Prop} {cI cZ cV : ClassId} {H : Heap} {locs : List Loc} {ls : Array Slot} {cells slots : Nat} (S : CallFix p m c code 4 s args xAll "EscrowedVersionsLaw") {sb L : Nat} {xs : Nat → Int32} (hX : va_X sb L xs s s.heap) (hbl : sb < s.heap.size) (hbA : ¬ A sb) (hL : L ≤ 2048) {i0 : Nat} (hi : i0 + 3 < L) (hcs : cells + 3 ≤ 600000 ∧ slots + 28 ≤ 7302250) {a : Nat → Nat} (hS : St a D A cI cZ cV s H locs) (hl : lv_has ls 4 [(0, .ref sb), (1, .ref (a 0)), (2, .ref (a 14)), (3, .int (nI i0))]) (kk : ∀ (H : Heap) (locs : List Loc) (ls : Array Slot), St a D A cI cZ cV s H locs → lv_has ls 4 [(0, .ref sb), (1, .ref (a 0)), (2, .ref (a 14)), (3, .int (nI i0))] → W p l e room_1 s m args below meth c H locs (cells + 3) (slots + 28) Q (F0 m 582 ls [])) : W p l e room_1 s m args below meth c H locs cells slots Q (F0 m 477 ls []) := by
  obtain ⟨f, n, c0, z0, n0, n1, ctr, act, mk, ring, ks, ns, ds, ss, bs, sh, C, pu, st, se, su, tt, zz, dd, hh, gg, xx, yy, vq, vd, vg, hw, hcoin, hc0, hb0, hn0, hn1, hm, ha, hv⟩ := hS
  exact s_length S hX hbl hbA hL hi hcs hl hw (fun H locs ls hw hl => kk H locs ls ⟨_, _, _, _, _, _, _, _, _, _, _, _, _, _, _, _, _, _, _, _, _, _, _, _, _, _, _, _, _, _, _, hw, hcoin, hc0, hb0, hn0, hn1, hm, ha, hv⟩ hl)

set_option maxHeartbeats 4000000 in
set_option maxRecDepth 100000 in
theorem r_versions {p : Program} {l : Launch} {e : Env} {s : State} {m : MethodId} {args : Array Value} {below : List Frame} {meth : Method} {c : Code} {Q : State → Prop} {D : va_G} {A : Nat → Prop} {cI cZ cV : ClassId} {H : Heap} {locs : List Loc} {ls : Array Slot} {cells slots : Nat} (S : CallFix p m c code 4 s args xAll "EscrowedVersionsLaw") {sb L : Nat} {xs : Nat → Int32} (hX : va_X sb L xs s s.heap) (hbl : sb < s.heap.size) (hbA : ¬ A sb) (hL : L ≤ 2048) {i0 : Nat} (hi : i0 + 3 < L) (hcs : cells + 3 ≤ 600000 ∧ slots + 28 ≤ 7302250) {a : Nat → Nat} (hS : St a D A cI cZ cV s H locs) (hl : lv_has ls 4 [(0, .ref sb), (1, .ref (a 0)), (2, .ref (a 14)), (3, .int (nI i0))]) (kk : ∀ (H : Heap) (locs : List Loc) (ls : Array Slot), St a D A cI cZ cV s H locs → lv_has ls 4 [(0, .ref sb), (1, .ref (a 0)), (2, .ref (a 14)), (3, .int (nI i0))] → W p l e room_1 s m args below meth c H locs (cells + 3) (slots + 28) Q (F0 m 582 ls [])) : W p l e room_1 s m args below meth c H locs cells slots Q (F0 m 523 ls []) := by
  obtain ⟨f, n, c0, z0, n0, n1, ctr, act, mk, ring, ks, ns, ds, ss, bs, sh, C, pu, st, se, su, tt, zz, dd, hh, gg, xx, yy, vq, vd, vg, hw, hcoin, hc0, hb0, hn0, hn1, hm, ha, hv⟩ := hS
  exact s_versions S hX hbl hbA hL hi hcs hl hw (fun H locs ls hw hl => kk H locs ls ⟨_, _, _, _, _, _, _, _, _, _, _, _, _, _, _, _, _, _, _, _, _, _, _, _, _, _, _, _, _, _, _, hw, hcoin, hc0, hb0, hn0, hn1, hm, ha, hv⟩ hl)

set_option maxHeartbeats 4000000 in
set_option maxRecDepth 100000 in
theorem r_entries {p : Program} {l : Launch} {e : Env} {s : State} {m : MethodId} {args : Array Value} {below : List Frame} {meth : Method} {c : Code} {Q : State → Prop} {D : va_G} {A : Nat → Prop} {cI cZ cV : ClassId} {H : Heap} {locs : List Loc} {ls : Array Slot} {cells slots : Nat} (S : CallFix p m c code 4 s args xAll "EscrowedVersionsLaw") {sb L : Nat} {xs : Nat → Int32} (hX : va_X sb L xs s s.heap) (hbl : sb < s.heap.size) (hbA : ¬ A sb) (hL : L ≤ 2048) {i0 : Nat} (hi : i0 + 3 < L) (hcs : cells + 3 ≤ 600000 ∧ slots + 28 ≤ 7302250) {a : Nat → Nat} (hS : St a D A cI cZ cV s H locs) (hl : lv_has ls 4 [(0, .ref sb), (1, .ref (a 0)), (2, .ref (a 14)), (3, .int (nI i0))]) (kk : ∀ (H : Heap) (locs : List Loc) (ls : Array Slot), St a D A cI cZ cV s H locs → lv_has ls 4 [(0, .ref sb), (1, .ref (a 0)), (2, .ref (a 14)), (3, .int (nI i0))] → W p l e room_1 s m args below meth c H locs (cells + 3) (slots + 28) Q (F0 m 582 ls [])) : W p l e room_1 s m args below meth c H locs cells slots Q (F0 m 569 ls []) := by
  obtain ⟨f, n, c0, z0, n0, n1, ctr, act, mk, ring, ks, ns, ds, ss, bs, sh, C, pu, st, se, su, tt, zz, dd, hh, gg, xx, yy, vq, vd, vg, hw, hcoin, hc0, hb0, hn0, hn1, hm, ha, hv⟩ := hS
  exact s_entries S hX hbl hbA hL hi hcs hl hw (fun H locs ls hw hl => kk H locs ls ⟨_, _, _, _, _, _, _, _, _, _, _, _, _, _, _, _, _, _, _, _, _, _, _, _, _, _, _, _, _, _, _, hw, hcoin, hc0, hb0, hn0, hn1, hm, ha, hv⟩ hl)

set_option maxHeartbeats 4000000 in
set_option maxRecDepth 100000 in
theorem r_times {p : Program} {l : Launch} {e : Env} {s : State} {m : MethodId} {args : Array Value} {below : List Frame} {meth : Method} {c : Code} {Q : State → Prop} {D : va_G} {A : Nat → Prop} {cI cZ cV : ClassId} {H : Heap} {locs : List Loc} {ls : Array Slot} {cells slots : Nat} (S : CallFix p m c code 4 s args xAll "EscrowedVersionsLaw") {sb L : Nat} {xs : Nat → Int32} (hX : va_X sb L xs s s.heap) (hbl : sb < s.heap.size) (hbA : ¬ A sb) (hL : L ≤ 2048) {i0 : Nat} (hi : i0 + 3 < L) (hcs : cells + 3 ≤ 600000 ∧ slots + 28 ≤ 7302250) {a : Nat → Nat} (hS : St a D A cI cZ cV s H locs) (hl : lv_has ls 4 [(0, .ref sb), (1, .ref (a 0)), (2, .ref (a 14)), (3, .int (nI i0))]) (kk : ∀ (H : Heap) (locs : List Loc) (ls : Array Slot), St a D A cI cZ cV s H locs → lv_has ls 4 [(0, .ref sb), (1, .ref (a 0)), (2, .ref (a 14)), (3, .int (nI i0))] → W p l e room_1 s m args below meth c H locs (cells + 3) (slots + 28) Q (F0 m 582 ls [])) : W p l e room_1 s m args below meth c H locs cells slots Q (F0 m 160 ls []) := by
  obtain ⟨f, n, c0, z0, n0, n1, ctr, act, mk, ring, ks, ns, ds, ss, bs, sh, C, pu, st, se, su, tt, zz, dd, hh, gg, xx, yy, vq, vd, vg, hw, hcoin, hc0, hb0, hn0, hn1, hm, ha, hv⟩ := hS
  by_cases h1 : fIsB (xs (i0 + 1)) = 0
  · exact s_times_a S hX hbl hbA hL hi hcs hl hw h1 h1 (fun H locs ls hw hl => kk H locs ls ⟨_, _, _, _, _, _, _, _, _, _, _, _, _, _, _, _, _, _, _, _, _, _, _, _, _, _, _, _, _, _, _, hw, hcoin, hc0, hb0, hn0, hn1, hm, ha, hv⟩ hl)
  · by_cases h2 : fIsB (xs (i0 + 2)) = 0
    · exact s_times_b S hX hbl hbA hL hi hcs hl hw h1 h2 h1 h2 (fun H locs ls hw hl => kk H locs ls ⟨_, _, _, _, _, _, _, _, _, _, _, _, _, _, _, _, _, _, _, _, _, _, _, _, _, _, _, _, _, _, _, hw, hcoin, hc0, hb0, hn0, hn1, hm, ha, hv⟩ hl)
    · exact s_times_ok S hX hbl hbA hL hi hcs hl hw h1 h2 h1 h2 (fun H locs ls hw hl => kk H locs ls ⟨_, _, _, _, _, _, _, _, _, _, _, _, _, _, _, _, _, _, _, _, _, _, _, _, _, _, _, _, _, _, _, hw, hcoin, hc0, hb0, hn0, hn1, hm, ha, hv⟩ hl)

set_option maxHeartbeats 4000000 in
set_option maxRecDepth 100000 in
theorem r_share {p : Program} {l : Launch} {e : Env} {s : State} {m : MethodId} {args : Array Value} {below : List Frame} {meth : Method} {c : Code} {Q : State → Prop} {D : va_G} {A : Nat → Prop} {cI cZ cV : ClassId} {H : Heap} {locs : List Loc} {ls : Array Slot} {cells slots : Nat} (S : CallFix p m c code 4 s args xAll "EscrowedVersionsLaw") {sb L : Nat} {xs : Nat → Int32} (hX : va_X sb L xs s s.heap) (hbl : sb < s.heap.size) (hbA : ¬ A sb) (hL : L ≤ 2048) {i0 : Nat} (hi : i0 + 3 < L) (hcs : cells + 3 ≤ 600000 ∧ slots + 28 ≤ 7302250) {a : Nat → Nat} (hS : St a D A cI cZ cV s H locs) (hl : lv_has ls 4 [(0, .ref sb), (1, .ref (a 0)), (2, .ref (a 14)), (3, .int (nI i0))]) (kk : ∀ (H : Heap) (locs : List Loc) (ls : Array Slot), St a D A cI cZ cV s H locs → lv_has ls 4 [(0, .ref sb), (1, .ref (a 0)), (2, .ref (a 14)), (3, .int (nI i0))] → W p l e room_1 s m args below meth c H locs (cells + 3) (slots + 28) Q (F0 m 582 ls [])) : W p l e room_1 s m args below meth c H locs cells slots Q (F0 m 272 ls []) := by
  obtain ⟨f, n, c0, z0, n0, n1, ctr, act, mk, ring, ks, ns, ds, ss, bs, sh, C, pu, st, se, su, tt, zz, dd, hh, gg, xx, yy, vq, vd, vg, hw, hcoin, hc0, hb0, hn0, hn1, hm, ha, hv⟩ := hS
  rcases le_of (xs (i0 + 1)) (n := n0) (by omega) with h | ⟨j, hj, hx⟩
  · have h2 : xs (i0 + 1) < 1 ∨ nI n0 < xs (i0 + 1) := h.imp (fun z => Int32.lt_trans z (by decide)) id
    exact s_sha_no S hX hbl hbA hL hi hcs hl hw h2 h2 (fun H locs ls hw hl => kk H locs ls ⟨_, _, _, _, _, _, _, _, _, _, _, _, _, _, _, _, _, _, _, _, _, _, _, _, _, _, _, _, _, _, _, hw, hcoin, hc0, hb0, hn0, hn1, hm, ha, hv⟩ hl)
  · rcases Nat.lt_or_ge j 1 with h | h
    · have h2 : xs (i0 + 1) < 1 ∨ nI n0 < xs (i0 + 1) := Or.inl (by rw [hx]; exact nI_lt (a := j) (b := 1) h (by decide))
      exact s_sha_no S hX hbl hbA hL hi hcs hl hw h2 h2 (fun H locs ls hw hl => kk H locs ls ⟨_, _, _, _, _, _, _, _, _, _, _, _, _, _, _, _, _, _, _, _, _, _, _, _, _, _, _, _, _, _, _, hw, hcoin, hc0, hb0, hn0, hn1, hm, ha, hv⟩ hl)
    · exact s_sha_ok S hX hbl hbA hL hi hcs hl hw ⟨h, hj, hn0⟩ ⟨h, hj, hn0⟩ hx (fun H locs ls hw hl => kk H locs ls ⟨_, _, _, _, _, _, _, _, _, _, _, _, _, _, _, _, _, _, _, _, _, _, _, _, _, _, _, _, _, _, _, hw, hcoin, hc0, hb0, hn0, hn1, hm, ha, hv⟩ hl)

set_option maxHeartbeats 4000000 in
set_option maxRecDepth 100000 in
theorem r_set {p : Program} {l : Launch} {e : Env} {s : State} {m : MethodId} {args : Array Value} {below : List Frame} {meth : Method} {c : Code} {Q : State → Prop} {D : va_G} {A : Nat → Prop} {cI cZ cV : ClassId} {H : Heap} {locs : List Loc} {ls : Array Slot} {cells slots : Nat} (S : CallFix p m c code 4 s args xAll "EscrowedVersionsLaw") {sb L : Nat} {xs : Nat → Int32} (hX : va_X sb L xs s s.heap) (hbl : sb < s.heap.size) (hbA : ¬ A sb) (hL : L ≤ 2048) {i0 : Nat} (hi : i0 + 3 < L) (hcs : cells + 3 ≤ 600000 ∧ slots + 28 ≤ 7302250) {a : Nat → Nat} (hS : St a D A cI cZ cV s H locs) (hl : lv_has ls 4 [(0, .ref sb), (1, .ref (a 0)), (2, .ref (a 14)), (3, .int (nI i0))]) (kk : ∀ (H : Heap) (locs : List Loc) (ls : Array Slot), St a D A cI cZ cV s H locs → lv_has ls 4 [(0, .ref sb), (1, .ref (a 0)), (2, .ref (a 14)), (3, .int (nI i0))] → W p l e room_1 s m args below meth c H locs (cells + 3) (slots + 28) Q (F0 m 582 ls [])) : W p l e room_1 s m args below meth c H locs cells slots Q (F0 m 398 ls []) := by
  obtain ⟨f, n, c0, z0, n0, n1, ctr, act, mk, ring, ks, ns, ds, ss, bs, sh, C, pu, st, se, su, tt, zz, dd, hh, gg, xx, yy, vq, vd, vg, hw, hcoin, hc0, hb0, hn0, hn1, hm, ha, hv⟩ := hS
  have hz := hb0.1
  by_cases hb : fIsB (xs (i0 + 2)) = 0
  · rcases isB_no hb with h | h
    · exact s_set_no S hX hbl hbA hL hi hcs hl hw (Or.inr (Or.inr (Or.inr hb))) (Or.inr (Or.inr (Or.inl h))) (fun H locs ls hw hl => kk H locs ls ⟨_, _, _, _, _, _, _, _, _, _, _, _, _, _, _, _, _, _, _, _, _, _, _, _, _, _, _, _, _, _, _, hw, hcoin, hc0, hb0, hn0, hn1, hm, ha, hv⟩ hl)
    · exact s_set_no S hX hbl hbA hL hi hcs hl hw (Or.inr (Or.inr (Or.inr hb))) (Or.inr (Or.inr (Or.inr (Or.inl h)))) (fun H locs ls hw hl => kk H locs ls ⟨_, _, _, _, _, _, _, _, _, _, _, _, _, _, _, _, _, _, _, _, _, _, _, _, _, _, _, _, _, _, _, hw, hcoin, hc0, hb0, hn0, hn1, hm, ha, hv⟩ hl)
  · obtain ⟨b, hb1, hb2⟩ := byte_of hb
    rcases le_of (xs (i0 + 1)) (n := z0) (by omega) with h | ⟨j, hj, hx⟩
    · rcases h with h | h
      · exact s_set_no S hX hbl hbA hL hi hcs hl hw (Or.inl h) (Or.inl h) (fun H locs ls hw hl => kk H locs ls ⟨_, _, _, _, _, _, _, _, _, _, _, _, _, _, _, _, _, _, _, _, _, _, _, _, _, _, _, _, _, _, _, hw, hcoin, hc0, hb0, hn0, hn1, hm, ha, hv⟩ hl)
      · exact s_set_no S hX hbl hbA hL hi hcs hl hw (Or.inr (Or.inl h)) (Or.inr (Or.inl h)) (fun H locs ls hw hl => kk H locs ls ⟨_, _, _, _, _, _, _, _, _, _, _, _, _, _, _, _, _, _, _, _, _, _, _, _, _, _, _, _, _, _, _, hw, hcoin, hc0, hb0, hn0, hn1, hm, ha, hv⟩ hl)
    · rcases Nat.lt_or_ge j z0 with h | h
      · exact s_set_in S hX hbl hbA hL hi hcs hl hw h hz hb h hz hb hx (fun H locs ls hw hl => kk H locs ls ⟨_, _, _, _, _, _, _, _, _, _, _, _, _, _, _, _, _, _, _, _, _, _, _, _, _, _, _, _, _, _, _, hw, hcoin, hc0, ⟨hz, fun i hi2 => by by_cases e : i = j; (· subst e; rw [pk_us]; exact ⟨b, hb1, hb2⟩); (· rw [pk_un e]; exact hb0.2 i hi2)⟩, hn0, hn1, hm, ha, hv⟩ hl)
      · obtain rfl : z0 = j := by omega
        rcases Nat.lt_or_ge z0 16 with h16 | h16
        · exact s_set_end S hX hbl hbA hL hi hcs hl hw h16 hb h16 hb hx (fun H locs ls hw hl => kk H locs ls ⟨_, _, _, _, _, _, _, _, _, _, _, _, _, _, _, _, _, _, _, _, _, _, _, _, _, _, _, _, _, _, _, hw, hcoin, hc0, ⟨h16, fun i hi2 => by by_cases e : i = z0; (· subst e; rw [pk_us]; exact ⟨b, hb1, hb2⟩); (· rw [pk_un e]; exact hb0.2 i (by omega))⟩, hn0, hn1, hm, ha, hv⟩ hl)
        · have e16 : z0 = 16 := by omega
          have hx16 : xs (i0 + 1) = 16 := by rw [hx, e16]; rfl
          exact s_set_no S hX hbl hbA hL hi hcs hl hw (Or.inr (Or.inr (Or.inl (by rw [hx16]; decide)))) (Or.inr (Or.inr (Or.inr (Or.inr hx16)))) (fun H locs ls hw hl => kk H locs ls ⟨_, _, _, _, _, _, _, _, _, _, _, _, _, _, _, _, _, _, _, _, _, _, _, _, _, _, _, _, _, _, _, hw, hcoin, hc0, hb0, hn0, hn1, hm, ha, hv⟩ hl)

set_option maxHeartbeats 4000000 in
set_option maxRecDepth 100000 in
theorem r_trim {p : Program} {l : Launch} {e : Env} {s : State} {m : MethodId} {args : Array Value} {below : List Frame} {meth : Method} {c : Code} {Q : State → Prop} {D : va_G} {A : Nat → Prop} {cI cZ cV : ClassId} {H : Heap} {locs : List Loc} {ls : Array Slot} {cells slots : Nat} (S : CallFix p m c code 4 s args xAll "EscrowedVersionsLaw") {sb L : Nat} {xs : Nat → Int32} (hX : va_X sb L xs s s.heap) (hbl : sb < s.heap.size) (hbA : ¬ A sb) (hL : L ≤ 2048) {i0 : Nat} (hi : i0 + 3 < L) (hcs : cells + 3 ≤ 600000 ∧ slots + 28 ≤ 7302250) {a : Nat → Nat} (hS : St a D A cI cZ cV s H locs) (hl : lv_has ls 4 [(0, .ref sb), (1, .ref (a 0)), (2, .ref (a 14)), (3, .int (nI i0))]) (kk : ∀ (H : Heap) (locs : List Loc) (ls : Array Slot), St a D A cI cZ cV s H locs → lv_has ls 4 [(0, .ref sb), (1, .ref (a 0)), (2, .ref (a 14)), (3, .int (nI i0))] → W p l e room_1 s m args below meth c H locs (cells + 3) (slots + 28) Q (F0 m 582 ls [])) : W p l e room_1 s m args below meth c H locs cells slots Q (F0 m 431 ls []) := by
  obtain ⟨f, n, c0, z0, n0, n1, ctr, act, mk, ring, ks, ns, ds, ss, bs, sh, C, pu, st, se, su, tt, zz, dd, hh, gg, xx, yy, vq, vd, vg, hw, hcoin, hc0, hb0, hn0, hn1, hm, ha, hv⟩ := hS
  have hz := hb0.1
  rcases le_of (xs (i0 + 1)) (n := z0) (by omega) with h | ⟨j, hj, hx⟩
  · exact s_tri_no S hX hbl hbA hL hi hcs hl hw h h (fun H locs ls hw hl => kk H locs ls ⟨_, _, _, _, _, _, _, _, _, _, _, _, _, _, _, _, _, _, _, _, _, _, _, _, _, _, _, _, _, _, _, hw, hcoin, hc0, hb0, hn0, hn1, hm, ha, hv⟩ hl)
  · exact s_tri_ok S hX hbl hbA hL hi hcs hl hw ⟨hj, hz⟩ ⟨hj, hz⟩ hx (fun H locs ls hw hl => kk H locs ls ⟨_, _, _, _, _, _, _, _, _, _, _, _, _, _, _, _, _, _, _, _, _, _, _, _, _, _, _, _, _, _, _, hw, hcoin, hc0, ⟨by omega, fun i hi2 => hb0.2 i (by omega)⟩, hn0, hn1, hm, ha, hv⟩ hl)

set_option maxHeartbeats 4000000 in
set_option maxRecDepth 100000 in
theorem r_byteAt {p : Program} {l : Launch} {e : Env} {s : State} {m : MethodId} {args : Array Value} {below : List Frame} {meth : Method} {c : Code} {Q : State → Prop} {D : va_G} {A : Nat → Prop} {cI cZ cV : ClassId} {H : Heap} {locs : List Loc} {ls : Array Slot} {cells slots : Nat} (S : CallFix p m c code 4 s args xAll "EscrowedVersionsLaw") {sb L : Nat} {xs : Nat → Int32} (hX : va_X sb L xs s s.heap) (hbl : sb < s.heap.size) (hbA : ¬ A sb) (hL : L ≤ 2048) {i0 : Nat} (hi : i0 + 3 < L) (hcs : cells + 3 ≤ 600000 ∧ slots + 28 ≤ 7302250) {a : Nat → Nat} (hS : St a D A cI cZ cV s H locs) (hl : lv_has ls 4 [(0, .ref sb), (1, .ref (a 0)), (2, .ref (a 14)), (3, .int (nI i0))]) (kk : ∀ (H : Heap) (locs : List Loc) (ls : Array Slot), St a D A cI cZ cV s H locs → lv_has ls 4 [(0, .ref sb), (1, .ref (a 0)), (2, .ref (a 14)), (3, .int (nI i0))] → W p l e room_1 s m args below meth c H locs (cells + 3) (slots + 28) Q (F0 m 582 ls [])) : W p l e room_1 s m args below meth c H locs cells slots Q (F0 m 454 ls []) := by
  obtain ⟨f, n, c0, z0, n0, n1, ctr, act, mk, ring, ks, ns, ds, ss, bs, sh, C, pu, st, se, su, tt, zz, dd, hh, gg, xx, yy, vq, vd, vg, hw, hcoin, hc0, hb0, hn0, hn1, hm, ha, hv⟩ := hS
  have hz := hb0.1
  rcases idx_of (xs (i0 + 1)) (n := z0) (by omega) with h | ⟨j, hj, hx⟩
  · exact s_byt_no S hX hbl hbA hL hi hcs hl hw h h (fun H locs ls hw hl => kk H locs ls ⟨_, _, _, _, _, _, _, _, _, _, _, _, _, _, _, _, _, _, _, _, _, _, _, _, _, _, _, _, _, _, _, hw, hcoin, hc0, hb0, hn0, hn1, hm, ha, hv⟩ hl)
  · exact s_byt_ok S hX hbl hbA hL hi hcs hl hw ⟨hj, hz⟩ ⟨hj, hz⟩ hx (fun H locs ls hw hl => kk H locs ls ⟨_, _, _, _, _, _, _, _, _, _, _, _, _, _, _, _, _, _, _, _, _, _, _, _, _, _, _, _, _, _, _, hw, hcoin, hc0, hb0, hn0, hn1, hm, ha, hv⟩ hl)

set_option maxHeartbeats 4000000 in
set_option maxRecDepth 100000 in
theorem r_log {p : Program} {l : Launch} {e : Env} {s : State} {m : MethodId} {args : Array Value} {below : List Frame} {meth : Method} {c : Code} {Q : State → Prop} {D : va_G} {A : Nat → Prop} {cI cZ cV : ClassId} {H : Heap} {locs : List Loc} {ls : Array Slot} {cells slots : Nat} (S : CallFix p m c code 4 s args xAll "EscrowedVersionsLaw") {sb L : Nat} {xs : Nat → Int32} (hX : va_X sb L xs s s.heap) (hbl : sb < s.heap.size) (hbA : ¬ A sb) (hL : L ≤ 2048) {i0 : Nat} (hi : i0 + 3 < L) (hcs : cells + 3 ≤ 600000 ∧ slots + 28 ≤ 7302250) {a : Nat → Nat} (hS : St a D A cI cZ cV s H locs) (hl : lv_has ls 4 [(0, .ref sb), (1, .ref (a 0)), (2, .ref (a 14)), (3, .int (nI i0))]) (kk : ∀ (H : Heap) (locs : List Loc) (ls : Array Slot), St a D A cI cZ cV s H locs → lv_has ls 4 [(0, .ref sb), (1, .ref (a 0)), (2, .ref (a 14)), (3, .int (nI i0))] → W p l e room_1 s m args below meth c H locs (cells + 3) (slots + 28) Q (F0 m 582 ls [])) : W p l e room_1 s m args below meth c H locs cells slots Q (F0 m 536 ls []) := by
  obtain ⟨f, n, c0, z0, n0, n1, ctr, act, mk, ring, ks, ns, ds, ss, bs, sh, C, pu, st, se, su, tt, zz, dd, hh, gg, xx, yy, vq, vd, vg, hw, hcoin, hc0, hb0, hn0, hn1, hm, ha, hv⟩ := hS
  rcases idx_of (xs (i0 + 1)) (n := c0) (by omega) with h | ⟨j, hj, hx⟩
  · exact s_log_no S hX hbl hbA hL hi hcs hl hw h h (fun H locs ls hw hl => kk H locs ls ⟨_, _, _, _, _, _, _, _, _, _, _, _, _, _, _, _, _, _, _, _, _, _, _, _, _, _, _, _, _, _, _, hw, hcoin, hc0, hb0, hn0, hn1, hm, ha, hv⟩ hl)
  · have hjc : j < c0 ∧ c0 ≤ 80 := ⟨hj, hc0⟩
    by_cases t0 : xs (i0 + 2) = 0
    · exact s_log_0 S hX hbl hbA hL hi hcs hl hw hjc hjc hx t0 (fun H locs ls hw hl => kk H locs ls ⟨_, _, _, _, _, _, _, _, _, _, _, _, _, _, _, _, _, _, _, _, _, _, _, _, _, _, _, _, _, _, _, hw, hcoin, hc0, hb0, hn0, hn1, hm, ha, hv⟩ hl)
    by_cases t1 : xs (i0 + 2) = 1
    · exact s_log_1 S hX hbl hbA hL hi hcs hl hw hjc hjc hx t1 (fun H locs ls hw hl => kk H locs ls ⟨_, _, _, _, _, _, _, _, _, _, _, _, _, _, _, _, _, _, _, _, _, _, _, _, _, _, _, _, _, _, _, hw, hcoin, hc0, hb0, hn0, hn1, hm, ha, hv⟩ hl)
    by_cases t2 : xs (i0 + 2) = 2
    · exact s_log_2 S hX hbl hbA hL hi hcs hl hw hjc hjc hx t2 (fun H locs ls hw hl => kk H locs ls ⟨_, _, _, _, _, _, _, _, _, _, _, _, _, _, _, _, _, _, _, _, _, _, _, _, _, _, _, _, _, _, _, hw, hcoin, hc0, hb0, hn0, hn1, hm, ha, hv⟩ hl)
    by_cases t3 : xs (i0 + 2) = 3
    · exact s_log_3 S hX hbl hbA hL hi hcs hl hw hjc hjc hx t3 (fun H locs ls hw hl => kk H locs ls ⟨_, _, _, _, _, _, _, _, _, _, _, _, _, _, _, _, _, _, _, _, _, _, _, _, _, _, _, _, _, _, _, hw, hcoin, hc0, hb0, hn0, hn1, hm, ha, hv⟩ hl)
    have ho : (xs (i0 + 2)).toInt < 0 ∨ 3 < (xs (i0 + 2)).toInt := by
      have g0 := lv_neT t0 (a := 0) (by decide)
      have g1 := lv_neT t1 (a := 1) (by decide)
      have g2 := lv_neT t2 (a := 2) (by decide)
      have g3 := lv_neT t3 (a := 3) (by decide)
      omega
    exact s_log_out S hX hbl hbA hL hi hcs hl hw hjc ho hjc ⟨t0, t1, t2, t3⟩ hx (fun H locs ls hw hl => kk H locs ls ⟨_, _, _, _, _, _, _, _, _, _, _, _, _, _, _, _, _, _, _, _, _, _, _, _, _, _, _, _, _, _, _, hw, hcoin, hc0, hb0, hn0, hn1, hm, ha, hv⟩ hl)
