/-! Worlds in another order; calls whose cells stand first; the script. -/
theorem x_D_iff {A : Nat → Prop} {ws : va_W} : va_D A ws ↔ (ws.map Prod.fst).Nodup ∧ ∀ q ∈ ws, A q.1 := by
  constructor
  · intro h
    refine ⟨?_, fun q hq => ?_⟩
    · rw [List.Nodup, List.pairwise_iff_getElem]
      intro i j hi hj hij e
      simp only [List.length_map] at hi hj
      simp only [List.getElem_map] at e
      have := h.1 i j ws[i] ws[j] (by simp [hi]) (by simp [hj]) e
      omega
    · obtain ⟨i, hi⟩ := List.getElem?_of_mem hq
      exact h.2 i q hi
  · intro h
    refine ⟨fun i j x y hi hj e => ?_, fun k q hk => h.2 q (List.mem_of_getElem? hk)⟩
    have h1 := h.1
    rw [List.Nodup, List.pairwise_iff_getElem] at h1
    obtain ⟨hi1, hi2⟩ := List.getElem?_eq_some_iff.mp hi
    obtain ⟨hj1, hj2⟩ := List.getElem?_eq_some_iff.mp hj
    rcases Nat.lt_trichotomy i j with hlt | heq | hgt
    · have h2 := h1 i j (by simpa using hi1) (by simpa using hj1) hlt
      simp only [List.getElem_map] at h2
      rw [hi2, hj2] at h2
      exact absurd e h2
    · exact heq
    · have h2 := h1 j i (by simpa using hj1) (by simpa using hi1) hgt
      simp only [List.getElem_map] at h2
      rw [hi2, hj2] at h2
      exact absurd e.symm h2
theorem x_joinP {A0 : Nat → Prop} {D : va_G} {cl : List vw_C} {w0 w1 rt : va_W} {H H1 : Heap} (hP : va_P D cl (w0 ++ rt) H) (hD : va_D A0 (w0 ++ rt)) (hk : ∀ q : Nat, q < H.size → ¬ va_A w0 H.size q → H1[q]? = H[q]?) (hF : ∀ q, va_A w0 H.size q → A0 q) (hP1 : va_P D cl w1 H1) (hD1 : va_D (va_A w0 H.size) w1) : va_P D cl (w1 ++ rt) H1 ∧ va_D A0 (w1 ++ rt) := by
  have at2 : ∀ (k : Nat) (q : Nat × va_E), rt[k]? = some q → (w0 ++ rt)[w0.length + k]? = some q := fun k q hq => by
    rw [List.getElem?_append_right (by omega), Nat.add_sub_cancel_left]; exact hq
  have apart : ∀ (k : Nat) (q : Nat × va_E), rt[k]? = some q → q.1 < H.size ∧ ¬ va_A w0 H.size q.1 := by
    intro k q hq
    have hl := (hP _ q (at2 k q hq)).lt
    refine ⟨hl, fun h => ?_⟩
    rcases h with ⟨j, e, h⟩ | h
    · have hj : j < w0.length := (List.getElem?_eq_some_iff.mp h).1
      have := hD.1 (w0.length + k) j q (q.1, e) (at2 k q hq) (by rw [List.getElem?_append_left hj]; exact h) rfl
      omega
    · omega
  refine ⟨va_P.app hP1 (fun k q hq => ?_), va_D.app (hD1.weaken (fun _ q _ h => hF q.1 h)) ⟨fun i j x y hi hj e => ?_, fun k q hq => hD.2 _ q (at2 k q hq)⟩ (fun i j x y hi hj e => ?_)⟩
  · obtain ⟨g1, g2⟩ := apart k q hq
    exact (hP _ q (at2 k q hq)).kept (hk q.1 g1 g2)
  · have := hD.1 _ _ x y (at2 i x hi) (at2 j y hj) e
    omega
  · exact (apart j y hj).2 (by rw [← e]; exact hD1.2 i x hi)
section XB
variable {p : Program} {l : Launch} {e : Env} {R : Room} {s : State} {m : MethodId} {args : Array Value} {below : List Frame} {meth : Method} {c : Code} {H : Heap} {locs : List Loc} {cells slots : Nat} {Q : State → Prop}
variable {cc : ByteArray} {pc nL : Nat} {ls : Array Slot} {rest st : List Value} {D : va_G} {A : Nat → Prop} {tys : List (ClassId × FieldType)} {ws w0 rt : va_W} {H0 : Heap} {own : String}
variable {y : MethodName} {bytes : ByteArray} {maxL mc ms n index d b : Nat} {ret : Option FieldType} {As : List Value} {Qc : Array Value → State → Outcome → State → Prop} {free : Addr → Prop}
theorem x_perm {ws' : va_W} (h : ws.Perm ws') (hw : xW D tys A H0 H locs ws s) : xW D tys A H0 H locs ws' s :=
  ⟨hw.1, fun k q hk => by
    obtain ⟨i, hi⟩ := List.getElem?_of_mem (h.mem_iff.mpr (List.mem_of_getElem? hk))
    exact hw.2.1 i q hi, x_D_iff.mpr ⟨(h.map _).nodup (x_D_iff.mp hw.2.2.1).1, fun q hq => (x_D_iff.mp hw.2.2.1).2 q (h.mem_iff.mpr hq)⟩, hw.2.2.2.1, hw.2.2.2.2⟩
theorem x_part {X cx pl : va_W} (hw : xW D tys A H0 H locs (X ++ pl) s) (is : List Nat) (hs : is.map (fun i => X[i]?) = cx.map some) (hn : va_nd is = true) : xW D tys A H0 H locs (cx ++ pl) s :=
  ⟨hw.1, hw.2.1.part is hs, hw.2.2.1.part is hn hs, hw.2.2.2.1, hw.2.2.2.2⟩
theorem x_preP (hw : xW D tys A H0 H locs (w0 ++ rt) s) : va_P D vwCl w0 H ∧ va_D (fun _ => True) w0 := by
  have at1 : ∀ (k : Nat) (q : Nat × va_E), w0[k]? = some q → (w0 ++ rt)[k]? = some q := fun k q hq => by
    rw [List.getElem?_append_left (List.getElem?_eq_some_iff.mp hq).1]; exact hq
  exact ⟨fun k q hk => hw.2.1 k q (at1 k q hk), fun i j x y hi hj e => hw.2.2.1.1 i j x y (at1 i x hi) (at1 j y hj) e, fun _ _ _ => trivial⟩
theorem x_freeP (hw : xW D tys A H0 H locs (w0 ++ rt) s) : ∀ q, va_A w0 H.size q → A q := by
  intro q h
  rcases h with ⟨k, e, h⟩ | h
  · exact hw.2.2.1.2 k (q, e) (by rw [List.getElem?_append_left (List.getElem?_eq_some_iff.mp h).1]; exact h)
  · exact hw.2.2.2.2 q (Nat.le_trans hw.2.2.2.1.1 h)
theorem x_runVP (S : CallFix p m c cc nL s args xAll own) (hw : xW D tys A H0 H locs (w0 ++ rt) s) (hM : Met l y (xWs y bytes maxL ret) (xR d mc ms) (va_Pc (.ref b :: As) (xPre D tys H.size w0)) Qc mc ms free)
    (hcode : Cond.code y bytes maxL ret ∈ xAll) (hlink : Cond.methodLink own index y ∈ xAll) (hinst : Cond.instanceMethod y ∈ xAll) (hsel : Cond.selects y.cls y y ∈ xAll) (hini : Cond.initialized y.cls ∈ xAll)
    (hd : y.cls ≠ "java/lang/invoke/MethodHandle" ∧ y.cls ≠ "java/lang/invoke/VarHandle" ∧ (parseMethodDescriptor y.desc).map (fun d => d.parameters.length) = some n) (hR : d + 1 ≤ R.frames ∧ 8 + (maxL + 11) + 40 * d ≤ R.locals)
    {T : u_T} {N q0 ci : Nat} {fs : List Value} (hc : vwCl[ci]? = some (y.cls, T, N)) (he : (w0 ++ rt)[q0]? = some (b, .inr (ci, fs)))
    (hn2 : As.length = n) (hls : ls.size = nL) (hst : st = As.reverse ++ .ref b :: rest) (hrm : (rest.map fun v => v.category).sum ≤ 8) (hdg : decode cc pc = .ok (.invokevirtual index, 3)) (hf : cells + mc ≤ R.cells ∧ slots + ms ≤ R.slots) :
    va_Run p l e R s m args below meth c H locs cells slots mc ms (F0 m pc ls st) rest (Qc (Value.ref b :: As).toArray) free := by
  have hin : ∀ w ∈ wsV own index y.cls y (xWs y bytes maxL ret), w ∈ xAll := by
    intro w h
    rcases List.mem_append.mp h with h | h
    · simp only [List.mem_cons, List.not_mem_nil, or_false] at h
      rcases h with rfl | rfl | rfl | rfl <;> assumption
    · rcases List.mem_cons.mp h with rfl | h
      · exact hcode
      · exact h
  have hp : PreV s H y.cls b (va_Pc (.ref b :: As) (xPre D tys H.size w0)) As :=
    ⟨xPre_blind, va_recv hw.1.1 hw.2.1 hc he, fun U hU hW => ⟨rfl, by rw [hU], by rw [hU]; exact (x_preP hw).1, xK.warm hW hw.1, (x_preP hw).2⟩⟩
  exact va_runV S hM (cwV n S.2.2.2.2 (x_goodIn _ hin) rfl rfl rfl ⟨rfl, hd⟩ hR) hp rfl hn2 hls hst (lv_room (m := m) (pc := pc) (ls := ls) (rest := st) hrm) hdg hf
theorem x_backP (hw : xW D tys A H0 H locs (w0 ++ rt) s) {u : va_W} {t : State} {H1 : Heap} {locs1 : List Loc} (ht : t.heap = H1) (hB : xB D (va_A w0 H.size) u t) (hk : ∀ q : Nat, q < H.size → ¬ va_A w0 H.size q → H1[q]? = H[q]?) (hS : va_S A H0 H1 locs1) : xW D tys A H0 H1 locs1 (u ++ rt) s := by
  obtain ⟨hP1, hD1⟩ := hB
  rw [ht] at hP1
  obtain ⟨h1, h2⟩ := x_joinP hw.2.1 hw.2.2.1 hk (x_freeP hw) hP1 hD1
  exact ⟨hw.1, h1, h2, hS, hw.2.2.2.2⟩
variable {av : Array Value}
theorem x_calliP {post : Int32 → va_W → Prop} (hw : xW D tys A H0 H locs (w0 ++ rt) s) (hr : va_Run p l e R s m args below meth c H locs cells slots mc ms (F0 m pc ls st) rest (va_Qi post (xB D (va_A w0 H.size)) (va_A w0 H.size) av) (va_A w0 H.size))
    (kk : ∀ (r : Int32) (u : va_W) (H1 : Heap) (locs1 : List Loc), post r u → xW D tys A H0 H1 locs1 (u ++ rt) s → W p l e R s m args below meth c H1 locs1 (cells + mc) (slots + ms) Q (F0 m (pc + 3) ls (.int r :: rest))) : W p l e R s m args below meth c H locs cells slots Q (F0 m pc ls st) :=
  va_calli hr hw.2.2.2.1 (fun q _ h => x_freeP hw q h) (x_freeP hw) (fun r u _ H1 locs1 ht _ hp hB _ hk hS => kk r u H1 locs1 hp (x_backP hw ht hB hk hS))
theorem x_calllP {post : Int64 → va_W → Prop} (hw : xW D tys A H0 H locs (w0 ++ rt) s) (hr : va_Run p l e R s m args below meth c H locs cells slots mc ms (F0 m pc ls st) rest (va_Ql post (xB D (va_A w0 H.size)) (va_A w0 H.size) av) (va_A w0 H.size))
    (kk : ∀ (r : Int64) (u : va_W) (H1 : Heap) (locs1 : List Loc), post r u → xW D tys A H0 H1 locs1 (u ++ rt) s → W p l e R s m args below meth c H1 locs1 (cells + mc) (slots + ms) Q (F0 m (pc + 3) ls (.long r :: rest))) : W p l e R s m args below meth c H locs cells slots Q (F0 m pc ls st) :=
  va_calll hr hw.2.2.2.1 (fun q _ h => x_freeP hw q h) (x_freeP hw) (fun r u _ H1 locs1 ht _ hp hB _ hk hS => kk r u H1 locs1 hp (x_backP hw ht hB hk hS))
/-- the script's number at place j -/
theorem x_sld (S : CallFix p m c cc nL s args xAll own) (hw : xW D tys A s.heap H locs ws s) {sb L : Nat} {xs : Nat → Int32} (hX : va_X sb L xs s s.heap) (hbl : sb < s.heap.size) (hbA : ¬ A sb) {i : Int32} (j : Nat) (hi : i = nI j) (hj : j < L) (hL : L ≤ 2048) (hdg : decode cc pc = .ok (.iaload, 1))
    (kk : W p l e R s m args below meth c H locs cells slots Q (F0 m (pc + 1) ls (.int (xs j) :: rest))) : W p l e R s m args below meth c H locs cells slots Q (F0 m pc ls (.int i :: .ref sb :: rest)) := by
  subst hi
  refine va_sld S.1 S.2.1 hX hbl hbA hw.2.2.2.1 (i := nI j) (vp_in_nI hj (by omega)) hdg ?_
  rw [nI_clamp (by omega)]
  exact kk
end XB
theorem lg_self (x : Int64) : lg_cmp x x = 0 := by simp [lg_cmp]
