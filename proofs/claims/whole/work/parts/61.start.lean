/-! The start: the tables, two new objects, the loop. -/
def adr (l : List Nat) : Nat → Nat := fun i => l.getD i 0
theorem k_all {s : State} {args : Array Value} (hts : ∀ w ∈ lw_tbl, w.before args s = true) : ∃ (D : va_G) (cI cZ cV : ClassId), xK D (xT3 cI cZ cV) s := by
  have hxs : ∀ w ∈ xAll, w.before args s = true := fun w h => hts w (xAll_in w h)
  obtain ⟨k0, i0, h0⟩ := u_known hxs inCR (hxs _ xh_1_19)
  obtain ⟨k1, i1, h1⟩ := u_known hxs inEN (hxs _ xh_1_64)
  obtain ⟨k2, i2, h2⟩ := u_known hxs inJO (hxs _ xh_1_37)
  obtain ⟨k3, i3, h3⟩ := u_known hxs inSP (hxs _ xh_1_79)
  obtain ⟨k4, i4, h4⟩ := u_known hxs inVE (hxs _ xh_1_154)
  obtain ⟨k5, i5, h5⟩ := u_known hxs inEV (hxs _ xh_1_11)
  obtain ⟨k6, i6, h6⟩ := u_known hxs inMO (hxs _ xh_2_140)
  obtain ⟨cI, kI, compI, eI1, eI2, eI3⟩ := Cond.arrayClass_spec (hxs _ xh_1_35)
  obtain ⟨cZ, kZ, compZ, eZ1, eZ2, eZ3⟩ := Cond.arrayClass_spec (hxs _ xh_2_215)
  have hov : (Cond.arrayOver (.object "EscrowedVersions$Version")).before args s = true := hts _ (xt1 (List.mem_of_getElem? (i := 98) rfl))
  obtain ⟨comp, cV, kV, f1, f2, f3, f4, f5⟩ := Cond.arrayOver_spec hov
  refine ⟨(fun c => match c with | 0 => k0 | 1 => k1 | 2 => k2 | 3 => k3 | 4 => k4 | 5 => k5 | _ => k6, fun c => match c with | 0 => i0 | 1 => i1 | 2 => i2 | 3 => i3 | 4 => i4 | 5 => i5 | _ => i6), cI, cZ, cV, ⟨fun c q hq => ?_, fun k q hq => ?_⟩, fun w hw => va_Nw.of ?_ (hts w (xNest_in w hw)), va_AO.of hov⟩
  · rcases c with _ | _ | _ | _ | _ | _ | _ | c
    · cases hq; exact h0
    · cases hq; exact h1
    · cases hq; exact h2
    · cases hq; exact h3
    · cases hq; exact h4
    · cases hq; exact h5
    · cases hq; exact h6
    · cases hq
  · rcases k with _ | _ | _ | k
    · cases hq; exact ⟨fun n z => ⟨fun k h => (by cases h), kI, eI2, compI, eI3⟩, eI1⟩
    · cases hq; exact ⟨fun n z => ⟨fun k h => (by cases h), kZ, eZ2, compZ, eZ3⟩, eZ1⟩
    · cases hq; exact ⟨fun n z => ⟨fun k h => (by cases h), kV, f3, comp, f4⟩, kV, comp, f3, f4, f1, f5⟩
    · cases hq
  · have h9 := xNestOk w hw
    cases w <;> first | (simp [xIsNest] at h9; done) | rfl
theorem Rv_0 : Rv 0 (fun _ => 0) (fun _ => 0) (fun _ => 0) (fun _ => 0) (fun _ => 0) (fun _ => 0) (fun _ _ => 0) (fun _ _ => 0) := fun k _ =>
  ⟨⟨0, 0, rfl, rfl, Nat.le_refl 0, by decide, fun h => absurd rfl h, fun i h1 h2 => by omega⟩, fun i _ _ h => absurd rfl h, fun _ i _ _ => rfl, fun _ => ⟨rfl, rfl, rfl⟩⟩
theorem Rcoin_00 : Rcoin (fun _ => 0) (fun _ => 0) 0 0 := ⟨by decide, by decide, fun k h => absurd h (Nat.not_lt_zero k), fun k h => absurd h (Nat.not_lt_zero k)⟩
set_option maxHeartbeats 4000000 in
set_option maxRecDepth 100000 in
theorem whole_start {p : Program} {e : Env} {s : State} {m : MethodId} {below : List Frame} {meth : Method} {c : Code} (l : Launch) {b L : Nat} {xs : Nat → Int32} (hL : L ≤ 2048) (C0 : lw_At p s m meth c b L xs) : W p l e room_1 s m #[Value.ref b] below meth c s.heap [] 0 0 (lw_Z below #[Value.ref b] s) (entryFrame m ([Value.ref b] : List Value).toArray 4) := by
  obtain ⟨hx, hb, hr, hml, hown, hts, hX, hbl, hlk, hgv⟩ := C0
  obtain ⟨D, cI, cZ, cV, hK⟩ := k_all hts
  have S : CallFix p m c code 4 s #[Value.ref b] xAll "EscrowedVersionsLaw" := ⟨hx, hb, hml, hown, fun w hw => hts w (xAll_in w hw)⟩
  rw [lg_entry_eq]
  have hl := lv_entry [Value.ref b] (n := 4) (Nat.le_of_ble_eq_true rfl)
  have hw : xW D (xT3 cI cZ cV) (fun q => s.heap.size ≤ q) s.heap s.heap [] [] s := ⟨hK, fun k q h => by simp at h, ⟨fun i j x y hi => by simp at hi, fun k q h => by simp at h⟩, ⟨Nat.le_refl _, fun q _ _ => rfl, fun l h => by simp at h⟩, fun q h => h⟩
  refine x_new S hw (C := REV) (T := TEV) (N := 8) (ci := 5) inEV tyEV tyEV_ok rfl xh_1_10 xh_1_11 xh_1_1 (fs := [.null, .null, .null, .null, .null, .int 0, .null, .int 0]) (by decide +kernel) (by decide) (by decide) (ws' := fun q => [(q, .inr (5, [.null, .null, .null, .null, .null, .int 0, .null, .int 0]))]) (fun _ => rfl) dLA_law_0 (fun q H hw => ?_)
  refine lv_dup hx hb dLA_law_3 rfl ?_
  refine x_callv hw [0] rfl rfl (x_runI (n := 0) (rest := [.ref q]) (As := []) S hw (i_EV l D cI cZ cV q _) xh_1_14 xh_1_12 xh_1_13 xh_1_1 rfl (by decide +kernel) ⟨by decide, by decide⟩ [0] rfl rfl rfl hl.1 rfl (Nat.le_of_ble_eq_true rfl) dLA_law_4 ⟨by decide, by decide⟩) (fun u H locs hp hx9 => ?_)
  obtain ⟨b1, b2, b3, b4, b5, b6, b7, b8, b9, b10, b11, b12, b13, rfl⟩ := hp
  have hw : xW D (xT3 cI cZ cV) (fun q => s.heap.size ≤ q) s.heap H locs ((q, .inr (5, [.ref b1, .ref b3, .ref b8, .ref b10, .ref b13, .int 0, .null, .int 0])) :: [(b1, .inr (0, [.ref b2, .int 0, .int 0])), (b2, .inl (cI, 64, .inl (fun _ => 0))), (b3, .inr (2, [.ref b4, .ref b5, .ref b6, .ref b7, .int 0])), (b4, .inl (cI, 80, .inl (fun _ => 0))), (b5, .inl (cI, 80, .inl (fun _ => 0))), (b6, .inl (cI, 80, .inl (fun _ => 0))), (b7, .inl (cI, 80, .inl (fun _ => 0))), (b8, .inr (1, [.ref b9, .int 0])), (b9, .inl (cI, 16, .inl (fun _ => 0))), (b10, .inr (3, [.ref b11, .ref b12, .int 0])), (b11, .inl (cI, 9, .inl (fun _ => 0))), (b12, .inl (cI, 8, .inl (fun _ => 0))), (b13, .inl (cV, 8, .inr (.inr (.inr (.inr (fun _ => none))))))]) s := hx9 [(q, .inr (5, [.ref b1, .ref b3, .ref b8, .ref b10, .ref b13, .int 0, .null, .int 0]))] [(b1, .inr (0, [.ref b2, .int 0, .int 0])), (b2, .inl (cI, 64, .inl (fun _ => 0))), (b3, .inr (2, [.ref b4, .ref b5, .ref b6, .ref b7, .int 0])), (b4, .inl (cI, 80, .inl (fun _ => 0))), (b5, .inl (cI, 80, .inl (fun _ => 0))), (b6, .inl (cI, 80, .inl (fun _ => 0))), (b7, .inl (cI, 80, .inl (fun _ => 0))), (b8, .inr (1, [.ref b9, .int 0])), (b9, .inl (cI, 16, .inl (fun _ => 0))), (b10, .inr (3, [.ref b11, .ref b12, .int 0])), (b11, .inl (cI, 9, .inl (fun _ => 0))), (b12, .inl (cI, 8, .inl (fun _ => 0))), (b13, .inl (cV, 8, .inr (.inr (.inr (.inr (fun _ => none))))))] rfl rfl
  refine lv_astore_n hx hb dLA_law_7 rfl hl (by decide) rfl (fun ls hl => ?_)
  refine x_new S hw (C := RMO) (T := TMO) (N := 23) (ci := 6) inMO tyMO tyMO_ok rfl xh_2_139 xh_2_140 xh_1_6 (fs := [.null, .int 0, .int 0, .null, .null, .null, .null, .null, .null, .null, .null, .null, .int 0, .int 0, .null, .null, .null, .null, .null, .int 0, .int 0, .null, .null]) (by decide +kernel) (by decide) (by decide) (ws' := fun g => ((q, .inr (5, [.ref b1, .ref b3, .ref b8, .ref b10, .ref b13, .int 0, .null, .int 0])) :: [(b1, .inr (0, [.ref b2, .int 0, .int 0])), (b2, .inl (cI, 64, .inl (fun _ => 0))), (b3, .inr (2, [.ref b4, .ref b5, .ref b6, .ref b7, .int 0])), (b4, .inl (cI, 80, .inl (fun _ => 0))), (b5, .inl (cI, 80, .inl (fun _ => 0))), (b6, .inl (cI, 80, .inl (fun _ => 0))), (b7, .inl (cI, 80, .inl (fun _ => 0))), (b8, .inr (1, [.ref b9, .int 0])), (b9, .inl (cI, 16, .inl (fun _ => 0))), (b10, .inr (3, [.ref b11, .ref b12, .int 0])), (b11, .inl (cI, 9, .inl (fun _ => 0))), (b12, .inl (cI, 8, .inl (fun _ => 0))), (b13, .inl (cV, 8, .inr (.inr (.inr (.inr (fun _ => none)))))), (g, .inr (6, [.null, .int 0, .int 0, .null, .null, .null, .null, .null, .null, .null, .null, .null, .int 0, .int 0, .null, .null, .null, .null, .null, .int 0, .int 0, .null, .null]))])) (fun _ => rfl) dLA_law_8 (fun g H hw => ?_)
  refine lv_dup hx hb dLA_law_11 rfl ?_
  refine x_callv hw [14] rfl rfl (x_runI (n := 0) (rest := [.ref g]) (As := []) S hw (i_MO l D cI cZ cV g _) xh_2_143 xh_2_141 xh_2_142 xh_1_6 rfl (by decide +kernel) ⟨by decide, by decide⟩ [14] rfl rfl rfl hl.1 rfl (Nat.le_of_ble_eq_true rfl) dLA_law_12 ⟨by decide, by decide⟩) (fun u H locs hp hx9 => ?_)
  obtain ⟨c1, c2, c3, c4, c5, c6, c7, c8, c9, c10, c11, c12, c13, c14, c15, c16, c17, rfl⟩ := hp
  have hw : xW D (xT3 cI cZ cV) (fun q => s.heap.size ≤ q) s.heap H locs (bigX (adr [q, b1, b2, b3, b4, b5, b6, b7, b8, b9, b10, b11, b12, b13, g, c1, c2, c3, c4, c5, c6, c7, c8, c9, c10, c11, c12, c13, c14, c15, c16, c17]) cI cZ cV 0 0 0 0 0 0 0 none (fun _ => none) (fun _ => 0) (fun _ => 0) (fun _ => 0) (fun _ => 0) (fun _ => 0) (fun _ => 0) (fun _ => 0) (fun _ => 0) (fun _ => 0) (fun _ => 0) (fun _ => 0) (fun _ => 0) (fun _ => 0) (fun _ => 0) (fun _ => 0) (fun _ => 0) (fun _ => 0) (fun _ => 0) (fun _ => 0) []) s := hx9 [(g, .inr (6, [.ref c1, .int 0, .int 0, .ref c2, .ref c3, .ref c4, .ref c5, .ref c6, .ref c7, .ref c8, .ref c9, .ref c10, .int 0, .int 0, .ref c11, .ref c12, .ref c13, .ref c14, .ref c15, .int 0, .int 0, .ref c16, .ref c17]))] [(c1, .inl (cI, 64, .inl (fun _ => 0))), (c2, .inl (cI, 8, .inl (fun _ => 0))), (c3, .inl (cI, 8, .inl (fun _ => 0))), (c4, .inl (cZ, 8, .inl (fun _ => 0))), (c5, .inl (cI, 8, .inl (fun _ => 0))), (c6, .inl (cI, 8, .inl (fun _ => 0))), (c7, .inl (cI, 72, .inl (fun _ => 0))), (c8, .inl (cI, 72, .inl (fun _ => 0))), (c9, .inl (cZ, 72, .inl (fun _ => 0))), (c10, .inl (cI, 9, .inl (fun _ => 0))), (c11, .inl (cI, 80, .inl (fun _ => 0))), (c12, .inl (cI, 80, .inl (fun _ => 0))), (c13, .inl (cI, 80, .inl (fun _ => 0))), (c14, .inl (cI, 80, .inl (fun _ => 0))), (c15, .inl (cI, 16, .inl (fun _ => 0))), (c16, .inl (cI, 8, .inl (fun _ => 0))), (c17, .inl (cI, 8, .inl (fun _ => 0)))] rfl rfl
  refine lv_astore_n hx hb dLA_law_15 rfl hl (by decide) rfl (fun ls hl => ?_)
  refine lv_iconst (v := 0) hx hb dLA_law_16 (by decide) ?_
  refine lv_istore_n hx hb dLA_law_17 rfl hl (by decide) rfl (fun ls hl => ?_)
  have hl : lv_has ls 4 [(0, .ref b), (1, .ref (adr [q, b1, b2, b3, b4, b5, b6, b7, b8, b9, b10, b11, b12, b13, g, c1, c2, c3, c4, c5, c6, c7, c8, c9, c10, c11, c12, c13, c14, c15, c16, c17] 0)), (2, .ref (adr [q, b1, b2, b3, b4, b5, b6, b7, b8, b9, b10, b11, b12, b13, g, c1, c2, c3, c4, c5, c6, c7, c8, c9, c10, c11, c12, c13, c14, c15, c16, c17] 14)), (3, .int (nI 0))] := lv_sub hl [3, 2, 1, 0] rfl
  have hS : St (adr [q, b1, b2, b3, b4, b5, b6, b7, b8, b9, b10, b11, b12, b13, g, c1, c2, c3, c4, c5, c6, c7, c8, c9, c10, c11, c12, c13, c14, c15, c16, c17]) D (fun q => s.heap.size ≤ q) cI cZ cV s H locs := ⟨0, 0, 0, 0, 0, 0, 0, none, fun _ => none, (fun _ => 0), (fun _ => 0), (fun _ => 0), (fun _ => 0), (fun _ => 0), (fun _ => 0), (fun _ => 0), (fun _ => 0), (fun _ => 0), (fun _ => 0), (fun _ => 0), (fun _ => 0), (fun _ => 0), (fun _ => 0), (fun _ => 0), (fun _ => 0), (fun _ => 0), (fun _ => 0), (fun _ => 0), fun _ _ => 0, fun _ _ => 0, fun _ _ => 0, hw, Rcoin_00, by decide, ⟨by decide, fun j h => absurd h (Nat.not_lt_zero j)⟩, by decide, by decide, fun k h => absurd h (Nat.not_lt_zero k), Or.inl ⟨rfl, fun k h => absurd h (Nat.not_lt_zero k)⟩, Rv_0⟩
  exact law_loop S hr hlk hX hbl (by omega) hL (fun q h => h) L 0 H locs ls _ _ (by omega) (by omega) (by decide) (by decide) hS hl
