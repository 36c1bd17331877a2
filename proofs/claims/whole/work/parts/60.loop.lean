def R_law : String := "EscrowedVersionsLaw"
def lw_P (b : Addr) (xs : List Int32) (args : Array Value) (s : State) : Prop := args = #[.ref b] ∧ s.IntsAt b xs ∧ xs.length ≤ 2048 ∧ (Jvm.Cond.and given_1 narrow_1).before args s = true
def lw_Q (_ : Array Value) (s : State) (o : Outcome) (t : State) : Prop := o = .returned (some (.int 1)) ∧ Framed s o t [] 600000 7302250
def lw_Z (below : List Frame) (a : Array Value) (s : State) : State → Prop := fun t => ∃ o, t.status = .running ∧ Ended t below o ∧ lw_Q a s o t
/-- the law's own end, with 1 on the stack, nothing written that was there before, its room as the claim has it -/
theorem lw_ret {p : Program} {l : Launch} {e : Env} {s : State} {m : MethodId} {below : List Frame} {meth : Method} {c : Code} {b : Nat} (hx : p.tables.exec = Jvm.exec) (hb : c.code = code) (hr : meth.sig.returnType = ret) (hlocks : meth.locks = false) {pc : Nat} {H : Heap} {ls : Array Slot} (hdg : decode code pc = .ok (.ireturn, 1)) : W p l e room_1 s m #[Value.ref b] below meth c H [] 600000 7302250 (lw_Z below #[Value.ref b] s) (F0 m pc ls [.int 1]) := by
  intro T hT X
  obtain ⟨fs, hret, hrun, hended, hW, hframe⟩ := X.leave (v := some (.int 1)) (hlocks := hlocks) (fun h => by rw [hr] at h; cases h)
  have hmeth' : T.vm.method? m = some meth := X.method'
  refine ⟨T.setFrames fs, ?_, .returned (some (.int 1)), hrun, hended, rfl, ⟨_, rfl⟩, hW, hframe⟩
  jvm_step X.here [X.here.top, hx, hb, hdg, hmeth', hr, ret, narrow_b1]
  (try refine ⟨rfl, ?_⟩); (try refine ⟨rfl, ?_⟩)
  first | (intro acts; rw [hret _ acts rfl rfl rfl]) | rw [hret _ _ rfl rfl rfl]
  exact Steps.refl _
/-- what holds at the law's entry: the machine, the code, the tables' words (any of lw_tbl by 'hts w (by decide +kernel)'), the script of L ints xs at the cell b, what the Statement gives of the start (any of its parts by flat_of_before) -/
def lw_At (p : Program) (s : State) (m : MethodId) (meth : Method) (c : Code) (b L : Nat) (xs : Nat → Int32) : Prop :=
  p.tables.exec = Jvm.exec ∧ c.code = code ∧ meth.sig.returnType = ret ∧ c.maxLocals = 4 ∧ s.vm.findClass R_law = some m.cls ∧ (∀ w ∈ lw_tbl, w.before #[Value.ref b] s = true) ∧ va_X b L xs s s.heap ∧ b < s.heap.size ∧ meth.locks = false ∧ (Jvm.Cond.and given_1 narrow_1).before #[Value.ref b] s = true
/-! The law's loop. -/
theorem lim_of {L i : Nat} (hL : L ≤ 2048) (hi : i < 2 ^ 31) (h : ¬ Int32.ofNat L - 4 < nI i) : i + 3 < L := by
  rcases Nat.lt_or_ge (i + 3) L with g | g
  · exact g
  · exfalso
    rcases Nat.lt_or_ge L 4 with q | q
    · have : ∀ k, k < 4 → Int32.ofNat k - 4 < 0 := by decide
      exact h (Int32.lt_of_lt_of_le (this L q) (nI_pos' hi))
    · obtain ⟨k, rfl⟩ : ∃ k, L = k + 4 := ⟨L - 4, by omega⟩
      have e : Int32.ofNat (k + 4) - 4 = nI k := by
        show nI (k + 4) - nI 4 = nI k
        rw [← nI_add, Int32.add_sub_cancel]
      rw [e] at h
      exact h (nI_lt (by omega) hi)
theorem out_of : ∀ j, j < 32 → 19 ≤ j → (nI j).toInt < 0 ∨ 18 < (nI j).toInt := by decide
set_option maxHeartbeats 4000000 in
set_option maxRecDepth 100000 in
theorem law_body {p : Program} {l : Launch} {e : Env} {s : State} {m : MethodId} {args : Array Value} {below : List Frame} {meth : Method} {c : Code} {Q : State → Prop} {D : va_G} {A : Nat → Prop} {cI cZ cV : ClassId} {H : Heap} {locs : List Loc} {ls : Array Slot} {cells slots : Nat} (S : CallFix p m c code 4 s args xAll "EscrowedVersionsLaw") {sb L : Nat} {xs : Nat → Int32} (hX : va_X sb L xs s s.heap) (hbl : sb < s.heap.size) (hbA : ¬ A sb) (hL : L ≤ 2048) {i0 : Nat} (hi0 : i0 ≤ 2052) (hcs : cells + 3 ≤ 600000 ∧ slots + 28 ≤ 7302250) {a : Nat → Nat} (hS : St a D A cI cZ cV s H locs) (hl : lv_has ls 4 [(0, .ref sb), (1, .ref (a 0)), (2, .ref (a 14)), (3, .int (nI i0))])
    (kk : i0 + 3 < L → ∀ (H : Heap) (locs : List Loc) (ls : Array Slot), St a D A cI cZ cV s H locs → lv_has ls 4 [(0, .ref sb), (1, .ref (a 0)), (2, .ref (a 14)), (3, .int (nI (i0 + 4)))] → W p l e room_1 s m args below meth c H locs (cells + 3) (slots + 28) Q (F0 m 18 ls []))
    (kend : W p l e room_1 s m args below meth c H locs cells slots Q (F0 m 588 ls [])) : W p l e room_1 s m args below meth c H locs cells slots Q (F0 m 18 ls []) := by
  obtain ⟨hx, hb, hml, hown, hts⟩ := id S
  obtain ⟨ws, hw⟩ : ∃ ws, xW D (xT3 cI cZ cV) A s.heap H locs ws s := by
    obtain ⟨f, n, c0, z0, n0, n1, ctr, act, mk, ring, ks, ns, ds, ss, bs, sh, C, pu, st, se, su, tt, zz, dd, hh, gg, xx, yy, vq, vd, vg, hw, hrest⟩ := hS
    exact ⟨_, hw⟩
  refine lv_iload_n hx hb dLA_law_18 rfl (lv_at hl 3 rfl) ?_
  refine lv_aload_n hx hb dLA_law_19 rfl (lv_at hl 0 rfl) ?_
  refine va_slen hx hb hX hbl hbA hw.2.2.2.1 dLA_law_20 ?_
  refine lv_iconst (v := 4) hx hb dLA_law_21 (by decide) ?_
  refine lv_isub hx hb dLA_law_22 ?_
  refine lv_icmp_gt (tgt := 588) hx hb dLA_law_23 (by decide) (fun _ => kend) (fun h => ?_)
  have hi := lim_of hL (by omega) h
  refine lv_aload_n hx hb dLA_law_26 rfl (lv_at hl 0 rfl) ?_
  refine lv_iload_n hx hb dLA_law_27 rfl (lv_at hl 3 rfl) ?_
  refine x_sld S hw hX hbl hbA i0 rfl (by omega) hL dLA_law_28 ?_
  refine lv_bipush (v := 31) hx hb dLA_law_29 (by decide) ?_
  refine lv_iand hx hb dLA_law_31 ?_
  obtain ⟨j, hj, ej⟩ := pk_andE (xs i0) (m := 31) 5 (by decide)
  refine x_topi ej ?_
  have k2 : ∀ (H : Heap) (locs : List Loc) (ls : Array Slot), St a D A cI cZ cV s H locs → lv_has ls 4 [(0, .ref sb), (1, .ref (a 0)), (2, .ref (a 14)), (3, .int (nI i0))] → W p l e room_1 s m args below meth c H locs (cells + 3) (slots + 28) Q (F0 m 582 ls []) := by
    intro H locs ls hS hl
    refine lv_iinc (k := 3) (v := nI (i0 + 4)) hx hb dLA_law_582 hl rfl (nI_add i0 4) (by decide) rfl (fun ls hl => ?_)
    refine lv_goto (tgt := 18) hx hb dLA_law_585 (by decide) ?_
    exact kk hi H locs ls hS (lv_sub hl [1, 2, 3, 0] rfl)
  by_cases e0 : j = 0
  · subst e0
    exact lv_tableIn (off := 92) (tgt := 124) hx hb dLA_law_32 (by decide) (by decide) (by decide) (by decide) (r_coin S hX hbl hbA hL hi hcs hS hl k2)
  by_cases e1 : j = 1
  · subst e1
    exact lv_tableIn (off := 115) (tgt := 147) hx hb dLA_law_32 (by decide) (by decide) (by decide) (by decide) (r_coins S hX hbl hbA hL hi hcs hS hl k2)
  by_cases e2 : j = 2
  · subst e2
    exact lv_tableIn (off := 128) (tgt := 160) hx hb dLA_law_32 (by decide) (by decide) (by decide) (by decide) (r_times S hX hbl hbA hL hi hcs hS hl k2)
  by_cases e3 : j = 3
  · subst e3
    exact lv_tableIn (off := 161) (tgt := 193) hx hb dLA_law_32 (by decide) (by decide) (by decide) (by decide) (r_rotate S hX hbl hbA hL hi hcs hS hl k2)
  by_cases e4 : j = 4
  · subst e4
    exact lv_tableIn (off := 174) (tgt := 206) hx hb dLA_law_32 (by decide) (by decide) (by decide) (by decide) (r_destroy S hX hbl hbA hL hi hcs hS hl k2)
  by_cases e5 : j = 5
  · subst e5
    exact lv_tableIn (off := 197) (tgt := 229) hx hb dLA_law_32 (by decide) (by decide) (by decide) (by decide) (r_split S hX hbl hbA hL hi hcs hS hl k2)
  by_cases e6 : j = 6
  · subst e6
    exact lv_tableIn (off := 240) (tgt := 272) hx hb dLA_law_32 (by decide) (by decide) (by decide) (by decide) (r_share S hX hbl hbA hL hi hcs hS hl k2)
  by_cases e7 : j = 7
  · subst e7
    exact lv_tableIn (off := 263) (tgt := 295) hx hb dLA_law_32 (by decide) (by decide) (by decide) (by decide) (r_lock S hX hbl hbA hL hi hcs hS hl k2)
  by_cases e8 : j = 8
  · subst e8
    exact lv_tableIn (off := 286) (tgt := 318) hx hb dLA_law_32 (by decide) (by decide) (by decide) (by decide) (r_give S hX hbl hbA hL hi hcs hS hl k2)
  by_cases e9 : j = 9
  · subst e9
    exact lv_tableIn (off := 329) (tgt := 361) hx hb dLA_law_32 (by decide) (by decide) (by decide) (by decide) (r_wrap S hX hbl hbA hL hi hcs hS hl k2)
  by_cases e10 : j = 10
  · subst e10
    exact lv_tableIn (off := 352) (tgt := 384) hx hb dLA_law_32 (by decide) (by decide) (by decide) (by decide) (r_unwrap S hX hbl hbA hL hi hcs hS hl k2)
  by_cases e11 : j = 11
  · subst e11
    exact lv_tableIn (off := 366) (tgt := 398) hx hb dLA_law_32 (by decide) (by decide) (by decide) (by decide) (r_set S hX hbl hbA hL hi hcs hS hl k2)
  by_cases e12 : j = 12
  · subst e12
    exact lv_tableIn (off := 399) (tgt := 431) hx hb dLA_law_32 (by decide) (by decide) (by decide) (by decide) (r_trim S hX hbl hbA hL hi hcs hS hl k2)
  by_cases e13 : j = 13
  · subst e13
    exact lv_tableIn (off := 422) (tgt := 454) hx hb dLA_law_32 (by decide) (by decide) (by decide) (by decide) (r_byteAt S hX hbl hbA hL hi hcs hS hl k2)
  by_cases e14 : j = 14
  · subst e14
    exact lv_tableIn (off := 445) (tgt := 477) hx hb dLA_law_32 (by decide) (by decide) (by decide) (by decide) (r_length S hX hbl hbA hL hi hcs hS hl k2)
  by_cases e15 : j = 15
  · subst e15
    exact lv_tableIn (off := 458) (tgt := 490) hx hb dLA_law_32 (by decide) (by decide) (by decide) (by decide) (r_version S hX hbl hbA hL hi hcs hS hl k2)
  by_cases e16 : j = 16
  · subst e16
    exact lv_tableIn (off := 491) (tgt := 523) hx hb dLA_law_32 (by decide) (by decide) (by decide) (by decide) (r_versions S hX hbl hbA hL hi hcs hS hl k2)
  by_cases e17 : j = 17
  · subst e17
    exact lv_tableIn (off := 504) (tgt := 536) hx hb dLA_law_32 (by decide) (by decide) (by decide) (by decide) (r_log S hX hbl hbA hL hi hcs hS hl k2)
  by_cases e18 : j = 18
  · subst e18
    exact lv_tableIn (off := 537) (tgt := 569) hx hb dLA_law_32 (by decide) (by decide) (by decide) (by decide) (r_entries S hX hbl hbA hL hi hcs hS hl k2)
  refine lv_tableOut (tgt := 582) hx hb dLA_law_32 (out_of j hj (by omega)) (by decide) ?_
  exact W.widen (by omega) (by omega) (k2 H locs ls hS hl)
theorem law_loop {p : Program} {l : Launch} {e : Env} {s : State} {m : MethodId} {below : List Frame} {meth : Method} {c : Code} {D : va_G} {A : Nat → Prop} {cI cZ cV : ClassId} {sb L : Nat} {xs : Nat → Int32} (S : CallFix p m c code 4 s #[Value.ref sb] xAll "EscrowedVersionsLaw") (hr : meth.sig.returnType = ret) (hlk : meth.locks = false) (hX : va_X sb L xs s s.heap) (hbl : sb < s.heap.size) (hbA : ¬ A sb) (hL : L ≤ 2048) (hA : ∀ q, A q → s.heap.size ≤ q) {a : Nat → Nat} : ∀ (d i0 : Nat) (H : Heap) (locs : List Loc) (ls : Array Slot) (cells slots : Nat), L ≤ i0 + d → i0 ≤ 2052 → cells ≤ 100 + i0 → slots ≤ 2000 + 7 * i0 → St a D A cI cZ cV s H locs → lv_has ls 4 [(0, .ref sb), (1, .ref (a 0)), (2, .ref (a 14)), (3, .int (nI i0))] → W p l e room_1 s m #[Value.ref sb] below meth c H locs cells slots (lw_Z below #[Value.ref sb] s) (F0 m 18 ls []) := by
  have kend : ∀ (i0 : Nat) (H : Heap) (locs : List Loc) (ls : Array Slot) (cells slots : Nat), i0 ≤ 2052 → cells ≤ 100 + i0 → slots ≤ 2000 + 7 * i0 → St a D A cI cZ cV s H locs → W p l e room_1 s m #[Value.ref sb] below meth c H locs cells slots (lw_Z below #[Value.ref sb] s) (F0 m 588 ls []) := by
    intro i0 H locs ls cells slots h1 h2 h3 hS
    have hlo : ∀ q ∈ locs, s.heap.size ≤ q.base := by
      obtain ⟨f, n, c0, z0, n0, n1, ctr, act, mk, ring, ks, ns, ds, ss, bs, sh, C, pu, st, se, su, tt, zz, dd, hh, gg, xx, yy, vq, vd, vg, hw, hrest⟩ := hS
      exact fun q hq => hA _ (hw.2.2.2.1.2.2 q hq)
    refine va_forget hlo ?_
    refine lv_iconst (v := 1) S.1 S.2.1 dLA_law_588 (by decide) ?_
    exact W.widen (by omega) (by omega) (lw_ret S.1 S.2.1 hr hlk dLA_law_589)
  intro d
  induction d with
  | zero =>
    intro i0 H locs ls cells slots h0 h1 h2 h3 hS hl
    exact law_body S hX hbl hbA hL h1 (by omega) hS hl (fun hi => by omega) (kend i0 H locs ls cells slots h1 h2 h3 hS)
  | succ d ih =>
    intro i0 H locs ls cells slots h0 h1 h2 h3 hS hl
    exact law_body S hX hbl hbA hL h1 (by omega) hS hl (fun hi H locs ls hS hl => ih (i0 + 4) H locs ls (cells + 3) (slots + 28) (by omega) (by omega) (by omega) (by omega) hS hl) (kend i0 H locs ls cells slots h1 h2 h3 hS)
