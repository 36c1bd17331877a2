/-! The layer: one bundle for a method's tables (xK), one for its world (xW), one form of contract (XM), rows over them. -/
theorem xNest_warm {w : Cond} (hw : xIsNest w = true) {s U : State} (hW : s.WarmedH U.vm) (h : va_Nw w s) : va_Nw w U := by
  cases w <;> first | (simp [xIsNest] at hw; done) | exact va_Nw.warmF hW h | exact va_Nw.warmM hW h
theorem xNest_same {w : Cond} (hw : xIsNest w = true) {s U : State} (e : s.vm = U.vm) (h : va_Nw w s) : va_Nw w U := by
  cases w <;> first | (simp [xIsNest] at hw; done) | exact va_Nw.same rfl e h
/-- the tables: classes, classes of arrays, nest words, the array class of versions -/
def xK (D : va_G) (tys : List (ClassId × FieldType)) (U : State) : Prop := va_K D vwCl tys U ∧ (∀ w ∈ xNest, va_Nw w U) ∧ va_AO "EscrowedVersions$Version" U
theorem xK.warm {D : va_G} {tys : List (ClassId × FieldType)} {s U : State} (hW : s.WarmedH U.vm) (h : xK D tys s) : xK D tys U :=
  ⟨va_K.moved hW.alike h.1, fun w hw => xNest_warm (xNestOk w hw) hW (h.2.1 w hw), va_AO.moved hW.alike h.2.2⟩
theorem xK.same {D : va_G} {tys : List (ClassId × FieldType)} {s U : State} (e : s.vm = U.vm) (h : xK D tys s) : xK D tys U :=
  ⟨va_K.moved (by rw [e]; exact Vm.Alike.refl _) h.1, fun w hw => xNest_same (xNestOk w hw) e (h.2.1 w hw), va_AO.moved (by rw [e]; exact Vm.Alike.refl _) h.2.2⟩
/-- a method's world as it goes -/
def xW (D : va_G) (tys : List (ClassId × FieldType)) (A : Nat → Prop) (H0 H : Heap) (locs : List Loc) (ws : va_W) (s : State) : Prop :=
  xK D tys s ∧ va_P D vwCl ws H ∧ va_D A ws ∧ va_S A H0 H locs ∧ ∀ q : Nat, H0.size ≤ q → A q
def xPre (D : va_G) (tys : List (ClassId × FieldType)) (sz : Nat) (w0 : va_W) (U : State) : Prop := U.heap.size = sz ∧ va_P D vwCl w0 U.heap ∧ xK D tys U ∧ va_D (fun _ => True) w0
def xB (D : va_G) (A : Nat → Prop) (u : va_W) (t : State) : Prop := va_P D vwCl u t.heap ∧ va_D A u
theorem xPre_blind {D : va_G} {tys : List (ClassId × FieldType)} {sz : Nat} {w0 : va_W} {av : List Value} : FrameBlind (va_Pc av (xPre D tys sz w0)) :=
  fun a U g mk q => ⟨q.1, q.2.1, q.2.2.1, xK.same (s := U) (U := U.calling g mk a) rfl q.2.2.2.1, q.2.2.2.2⟩
abbrev xR (d mc ms : Nat) : Room := { frames := d, cells := mc, slots := ms, locals := 40 * d }
abbrev xWs (y : MethodName) (cc : ByteArray) (n : Nat) (ret : Option FieldType) : List Cond := Cond.code y cc n ret :: xAll
/-- the contract of a method that answers an int (or a boolean) -/
def XI (l : Launch) (y : MethodName) (cc : ByteArray) (n : Nat) (ret : Option FieldType) (D : va_G) (tys : List (ClassId × FieldType)) (d mc ms : Nat) (av : List Value) (w0 : va_W) (post : Int32 → va_W → Prop) : Prop :=
  ∀ sz : Nat, Met l y (xWs y cc n ret) (xR d mc ms) (va_Pc av (xPre D tys sz w0)) (va_Qi post (xB D (va_A w0 sz)) (va_A w0 sz)) mc ms (va_A w0 sz)
/-- a long -/
def XL (l : Launch) (y : MethodName) (cc : ByteArray) (n : Nat) (ret : Option FieldType) (D : va_G) (tys : List (ClassId × FieldType)) (d mc ms : Nat) (av : List Value) (w0 : va_W) (post : Int64 → va_W → Prop) : Prop :=
  ∀ sz : Nat, Met l y (xWs y cc n ret) (xR d mc ms) (va_Pc av (xPre D tys sz w0)) (va_Ql post (xB D (va_A w0 sz)) (va_A w0 sz)) mc ms (va_A w0 sz)
/-- nothing -/
def XV (l : Launch) (y : MethodName) (cc : ByteArray) (n : Nat) (ret : Option FieldType) (D : va_G) (tys : List (ClassId × FieldType)) (d mc ms : Nat) (av : List Value) (w0 : va_W) (post : va_W → Prop) : Prop :=
  ∀ sz : Nat, Met l y (xWs y cc n ret) (xR d mc ms) (va_Pc av (xPre D tys sz w0)) (va_Qv post (xB D (va_A w0 sz)) (va_A w0 sz)) mc ms (va_A w0 sz)
/-- a reference or null -/
def XQ (l : Launch) (y : MethodName) (cc : ByteArray) (n : Nat) (ret : Option FieldType) (D : va_G) (tys : List (ClassId × FieldType)) (d mc ms : Nat) (av : List Value) (w0 : va_W) (post : Option Nat → va_W → Prop) : Prop :=
  ∀ sz : Nat, Met l y (xWs y cc n ret) (xR d mc ms) (va_Pc av (xPre D tys sz w0)) (va_Qq post (xB D (va_A w0 sz)) (va_A w0 sz)) mc ms (va_A w0 sz)
/-- a contract out of a walk -/
theorem x_ofW {l : Launch} {y : MethodName} {cc : ByteArray} {n : Nat} {ret : Option FieldType} {D : va_G} {tys : List (ClassId × FieldType)} {d mc ms : Nat} {av : List Value} {w0 : va_W} {Qc : (Nat → Prop) → Array Value → State → Outcome → State → Prop} (sz : Nat) (hy : plainName y.cls = true) (hn : (lg_sl av).length ≤ n)
    (body : ∀ (p : Program) (e : Env) (s : State) (m : MethodId) (args : Array Value) (below : List Frame) (meth : Method) (c : Code) (A : Nat → Prop) (ls : Array Slot), CallFix p m c cc n s args xAll y.cls → meth.sig.returnType = ret → meth.locks = false → meth.name = y.name → xW D tys A s.heap s.heap [] w0 s → lv_has ls n (lv_args 0 av) →
      W p l e (xR d mc ms) s m args below meth c s.heap [] 0 0 (MQ below (Qc A) args s mc ms A) (F0 m 0 ls [])) :
    Met l y (xWs y cc n ret) (xR d mc ms) (va_Pc av (xPre D tys sz w0)) (Qc (va_A w0 sz)) mc ms (va_A w0 sz) := by
  refine Met.ofW (cc := cc) (maxL := n) (ret := ret) hy rfl ?_
  intro p e s m args below meth c s₁ B hml hv
  obtain ⟨rfl, hsz, hP, hK, hD0⟩ := hv
  have hts := atoms_spec (ws := xWs y cc n ret) B.pre
  have hown : s.vm.findClass y.cls = some m.cls := findClass_of_methodNamed B.named
  subst hsz
  rw [lg_entry_eq]
  exact body p e s m av.toArray below meth c (va_A w0 s.heap.size) _ ⟨B.exec, B.bytes, hml, hown, fun w hw => hts w (List.mem_cons_of_mem _ hw)⟩ B.returns B.notSynchronized (name_of_methodNamed B.named B.method).1
    ⟨hK, hP, hD0.self, va_S.rf, fun q h => Or.inr h⟩ (lv_entry av hn)
/-- cells in place -/
def x_set : va_W → List Nat → va_W → va_W
  | ws, i :: is, c :: cs => x_set (ws.set i c) is cs
  | ws, _, _ => ws
theorem x_set_at : ∀ (is : List Nat) (ws a : va_W), va_nd is = true → ∀ (k : Nat) (q : Nat × va_E), (x_set ws is a)[k]? = some q → (∃ j : Nat, is[j]? = some k ∧ a[j]? = some q) ∨ ((∀ j : Nat, is[j]? = some k → a[j]? = none) ∧ ws[k]? = some q)
  | [], ws, a, _, k, q, h => by
    refine Or.inr ⟨fun j hj => by simp at hj, ?_⟩
    simpa [x_set] using h
  | i :: is, ws, [], _, k, q, h => by
    refine Or.inr ⟨fun j _ => by simp, ?_⟩
    simpa [x_set] using h
  | i :: is, ws, c :: cs, hn, k, q, h => by
    simp only [va_nd, Bool.and_eq_true, decide_eq_true_eq] at hn
    rcases x_set_at is (ws.set i c) cs hn.2 k q h with ⟨j, h1, h2⟩ | ⟨h1, h2⟩
    · exact Or.inl ⟨j + 1, by simpa using h1, by simpa using h2⟩
    · by_cases hik : i = k
      · subst hik
        have hl : i < ws.length := by
          have := (List.getElem?_eq_some_iff.mp h2).1
          simpa using this
        rw [List.getElem?_set_self hl] at h2
        exact Or.inl ⟨0, by simp, by simpa using h2⟩
      · rw [List.getElem?_set_ne hik] at h2
        refine Or.inr ⟨fun j hj => ?_, h2⟩
        cases j with
        | zero => exact absurd (by simpa using hj) hik
        | succ j => simpa using h1 j (by simpa using hj)
theorem x_map_at {α β : Type} {is : List α} {w : List β} {f : α → Option β} (h : is.map f = w.map some) {j : Nat} {q : β} (hq : w[j]? = some q) : ∃ i, is[j]? = some i ∧ f i = some q := by
  have h1 : (is.map f)[j]? = some (some q) := by rw [h, List.getElem?_map, hq]; rfl
  rw [List.getElem?_map] at h1
  cases hi : is[j]? with
  | none => rw [hi] at h1; cases h1
  | some i => rw [hi] at h1; exact ⟨i, rfl, Option.some.inj h1⟩
theorem x_fst_at {a w0 : va_W} (h : a.map Prod.fst = w0.map Prod.fst) {j : Nat} {q : Nat × va_E} (hq : a[j]? = some q) : ∃ q0, w0[j]? = some q0 ∧ q0.1 = q.1 := by
  have h1 : (w0.map Prod.fst)[j]? = some q.1 := by rw [← h, List.getElem?_map, hq]; rfl
  rw [List.getElem?_map] at h1
  cases hi : w0[j]? with
  | none => rw [hi] at h1; cases h1
  | some q0 => rw [hi] at h1; exact ⟨q0, rfl, Option.some.inj h1⟩
theorem x_len {a w0 : va_W} (h : a.map Prod.fst = w0.map Prod.fst) : a.length = w0.length := by
  have := congrArg List.length h
  simpa using this
/-- behind a call: the callee's cells in their old places, its new ones at the end -/
theorem x_join {A0 : Nat → Prop} {D : va_G} {cl : List vw_C} {ws w0 a b : va_W} {H H1 : Heap} (hP : va_P D cl ws H) (hD : va_D A0 ws) (is : List Nat) (hC : is.map (fun i => ws[i]?) = w0.map some) (hn : va_nd is = true) (hf : a.map Prod.fst = w0.map Prod.fst)
    (hk : ∀ q : Nat, q < H.size → ¬ va_A w0 H.size q → H1[q]? = H[q]?) (hF : ∀ q, va_A w0 H.size q → A0 q) (hP1 : va_P D cl (a ++ b) H1) (hD1 : va_D (va_A w0 H.size) (a ++ b)) : va_P D cl (x_set ws is a ++ b) H1 ∧ va_D A0 (x_set ws is a ++ b) := by
  have hal := x_len hf
  have old : ∀ (k : Nat) (q : Nat × va_E), (x_set ws is a)[k]? = some q → ∃ q0, ws[k]? = some q0 ∧ q0.1 = q.1 := by
    intro k q h
    rcases x_set_at is ws a hn k q h with ⟨j, h1, h2⟩ | ⟨-, h2⟩
    · obtain ⟨q0, h3, h4⟩ := x_fst_at hf h2
      obtain ⟨i, h5, h6⟩ := x_map_at hC h3
      cases h1.symm.trans h5
      exact ⟨q0, h6, h4⟩
    · exact ⟨q, h2, rfl⟩
  have apart : ∀ (k : Nat) (q : Nat × va_E), ws[k]? = some q → (∀ j : Nat, is[j]? = some k → a[j]? = none) → H1[q.1]? = H[q.1]? := by
    intro k q h1 h2
    have hl := (hP k q h1).lt
    refine hk q.1 hl (fun h => ?_)
    rcases h with ⟨j, e, h⟩ | h
    · obtain ⟨i, h5, h6⟩ := x_map_at hC h
      have := hD.1 k i q (q.1, e) h1 h6 rfl
      subst this
      have h7 := h2 j h5
      have hj : j < w0.length := (List.getElem?_eq_some_iff.mp h).1
      have h8 : a.length ≤ j := by simpa using h7
      omega
    · omega
  refine ⟨va_P.app (fun k q hq => ?_) (fun k q hq => ?_), va_D.app ⟨fun i j x y hi hj hxy => ?_, fun k q hq => ?_⟩ ⟨fun i j x y hi hj hxy => ?_, fun k q hq => ?_⟩ (fun i j x y hi hj hxy => ?_)⟩
  · rcases x_set_at is ws a hn k q hq with ⟨j, -, h2⟩ | ⟨h1, h2⟩
    · exact hP1 j q (by rw [List.getElem?_append_left (List.getElem?_eq_some_iff.mp h2).1]; exact h2)
    · exact (hP k q h2).kept (apart k q h2 h1)
  · exact hP1 (a.length + k) q (by rw [List.getElem?_append_right (by omega), Nat.add_sub_cancel_left]; exact hq)
  · obtain ⟨x0, h1, h2⟩ := old i x hi
    obtain ⟨y0, h3, h4⟩ := old j y hj
    exact hD.1 i j x0 y0 h1 h3 (h2.trans (hxy.trans h4.symm))
  · obtain ⟨q0, h1, h2⟩ := old k q hq
    rw [← h2]
    exact hD.2 k q0 h1
  · have := hD1.1 (a.length + i) (a.length + j) x y (by rw [List.getElem?_append_right (by omega), Nat.add_sub_cancel_left]; exact hi) (by rw [List.getElem?_append_right (by omega), Nat.add_sub_cancel_left]; exact hj) hxy
    omega
  · exact hF _ (hD1.2 (a.length + k) q (by rw [List.getElem?_append_right (by omega), Nat.add_sub_cancel_left]; exact hq))
  · obtain ⟨x0, h1, h2⟩ := old i x hi
    have hl := (hP i x0 h1).lt
    have hj2 : (a ++ b)[a.length + j]? = some y := by rw [List.getElem?_append_right (by omega), Nat.add_sub_cancel_left]; exact hj
    rcases hD1.2 _ y hj2 with ⟨k, e, h⟩ | h
    · have hka : k < a.length := by rw [hal]; exact (List.getElem?_eq_some_iff.mp h).1
      obtain ⟨z, hz⟩ : ∃ z, a[k]? = some z := ⟨a[k], by simp [hka]⟩
      obtain ⟨z0, h5, h6⟩ := x_fst_at hf hz
      cases h.symm.trans h5
      have := hD1.1 k (a.length + j) z y (by rw [List.getElem?_append_left hka]; exact hz) hj2 (h6.symm)
      omega
    · omega
section XR
variable {p : Program} {l : Launch} {e : Env} {R : Room} {s : State} {m : MethodId} {args : Array Value} {below : List Frame} {meth : Method} {c : Code} {H : Heap} {locs : List Loc} {cells slots : Nat} {Q : State → Prop}
variable {cc : ByteArray} {pc nL : Nat} {ls : Array Slot} {rest : List Value} {D : va_G} {A : Nat → Prop} {a : Nat} {tys : List (ClassId × FieldType)} {ws : va_W} {H0 : Heap} {own : String}
/-- getfield -/
theorem x_get (S : CallFix p m c cc nL s args xAll own) (hw : xW D tys A H0 H locs ws s) {C : String} {T : u_T} {N ci index : Nat} (hin : ∀ w ∈ u_ws C T N, w ∈ xAll) (q0 : Nat) {fs : List Value} (he : ws[q0]? = some (a, .inr (ci, fs))) (hc : vwCl[ci]? = some (C, T, N)) (k : Nat) (hk : k < N) (hlink : Cond.fieldLink own index (T k).1 (T k).2.1 (T k).2.2.1 ∈ xAll) {v : Value} (hv : fs[k]? = some v) (hdg : decode cc pc = .ok (.getfield index, 3))
    (kk : W p l e R s m args below meth c H locs cells slots Q (F0 m (pc + 3) ls (v :: rest))) : W p l e R s m args below meth c H locs cells slots Q (F0 m pc ls (.ref a :: rest)) :=
  va_get S.1 S.2.1 S.2.2.2.2 hin S.2.2.2.1 hw.1.1 hw.2.1 q0 he hc k hk (S.2.2.2.2 _ hlink) (fun _ h => h) hv hdg kk
theorem x_getN (S : CallFix p m c cc nL s args xAll own) (hw : xW D tys A H0 H locs ws s) {C host : String} {T : u_T} {N ci index : Nat} (hin : ∀ w ∈ u_ws C T N, w ∈ xAll) (q0 : Nat) {fs : List Value} (he : ws[q0]? = some (a, .inr (ci, fs))) (hc : vwCl[ci]? = some (C, T, N)) (k : Nat) (hk : k < N) (hlink : Cond.fieldLinkNest own index (T k).1 (T k).2.1 (T k).2.2.1 host ∈ xNest) {v : Value} (hv : fs[k]? = some v) (hdg : decode cc pc = .ok (.getfield index, 3))
    (kk : W p l e R s m args below meth c H locs cells slots Q (F0 m (pc + 3) ls (v :: rest))) : W p l e R s m args below meth c H locs cells slots Q (F0 m pc ls (.ref a :: rest)) :=
  va_getN S.1 S.2.1 S.2.2.2.2 hin S.2.2.2.1 hw.1.1 hw.2.1 q0 he hc k hk (va_Nw.use rfl (hw.1.2.1 _ hlink)) (fun _ h => h) hv hdg kk
/-- putfield -/
theorem x_put (S : CallFix p m c cc nL s args xAll own) (hw : xW D tys A H0 H locs ws s) {C : String} {T : u_T} {N ci index : Nat} (hin : ∀ w ∈ u_ws C T N, w ∈ xAll) (ty0 : Nat → FieldType) (hty : ∀ k, k < N → parseFieldDescriptor (T k).2.2.1 = some (ty0 k)) (hnm : ∀ a, a < N → ∀ b, b < N → a ≠ b → (T a).2.1 ≠ (T b).2.1) (q0 : Nat) {fs : List Value} (he : ws[q0]? = some (a, .inr (ci, fs))) (hc : vwCl[ci]? = some (C, T, N)) (k : Nat) (hk : k < N) (hlink : Cond.fieldLink own index (T k).1 (T k).2.1 (T k).2.2.1 ∈ xAll) (hfin : (T k).2.2.2 = false) {v : Value} (hn : narrow (ty0 k) v = v) (hfit : fits (ty0 k) v = true) (hl : k < fs.length) {ws' : va_W} (hs : ws.set q0 (a, .inr (ci, fs.set k v)) = ws')
    (hdg : decode cc pc = .ok (.putfield index, 3)) (kk : ∀ (H1 : Heap) (locs1 : List Loc), xW D tys A H0 H1 locs1 ws' s → W p l e R s m args below meth c H1 locs1 cells slots Q (F0 m (pc + 3) ls rest)) : W p l e R s m args below meth c H locs cells slots Q (F0 m pc ls (v :: .ref a :: rest)) := by
  subst hs
  exact va_put S.1 S.2.1 S.2.2.2.2 hin ty0 hty hnm S.2.2.2.1 hw.1.1 hw.2.1 hw.2.2.1 hw.2.2.2.1 q0 he hc k hk (S.2.2.2.2 _ hlink) (fun _ h => h) hfin (hty k hk) hn hfit hl hdg (fun H1 locs1 hP hD hS => kk H1 locs1 ⟨hw.1, hP, hD, hS, hw.2.2.2.2⟩)
theorem x_putN (S : CallFix p m c cc nL s args xAll own) (hw : xW D tys A H0 H locs ws s) {C host : String} {T : u_T} {N ci index : Nat} (hin : ∀ w ∈ u_ws C T N, w ∈ xAll) (ty0 : Nat → FieldType) (hty : ∀ k, k < N → parseFieldDescriptor (T k).2.2.1 = some (ty0 k)) (hnm : ∀ a, a < N → ∀ b, b < N → a ≠ b → (T a).2.1 ≠ (T b).2.1) (q0 : Nat) {fs : List Value} (he : ws[q0]? = some (a, .inr (ci, fs))) (hc : vwCl[ci]? = some (C, T, N)) (k : Nat) (hk : k < N) (hlink : Cond.fieldLinkNest own index (T k).1 (T k).2.1 (T k).2.2.1 host ∈ xNest) (hfin : (T k).2.2.2 = false) {v : Value} (hn : narrow (ty0 k) v = v) (hfit : fits (ty0 k) v = true) (hl : k < fs.length) {ws' : va_W} (hs : ws.set q0 (a, .inr (ci, fs.set k v)) = ws')
    (hdg : decode cc pc = .ok (.putfield index, 3)) (kk : ∀ (H1 : Heap) (locs1 : List Loc), xW D tys A H0 H1 locs1 ws' s → W p l e R s m args below meth c H1 locs1 cells slots Q (F0 m (pc + 3) ls rest)) : W p l e R s m args below meth c H locs cells slots Q (F0 m pc ls (v :: .ref a :: rest)) := by
  subst hs
  exact va_putN S.1 S.2.1 S.2.2.2.2 hin ty0 hty hnm S.2.2.2.1 hw.1.1 hw.2.1 hw.2.2.1 hw.2.2.2.1 q0 he hc k hk (va_Nw.use rfl (hw.1.2.1 _ hlink)) (fun _ h => h) hfin (hty k hk) hn hfit hl hdg (fun H1 locs1 hP hD hS => kk H1 locs1 ⟨hw.1, hP, hD, hS, hw.2.2.2.2⟩)
/-- putfield of a final field, in a constructor -/
theorem x_putF (S : CallFix p m c cc nL s args xAll own) (hin2 : meth.name = "<init>") (hw : xW D tys A H0 H locs ws s) {C : String} {T : u_T} {N ci index : Nat} (hin : ∀ w ∈ u_ws C T N, w ∈ xAll) (ty0 : Nat → FieldType) (hty : ∀ k, k < N → parseFieldDescriptor (T k).2.2.1 = some (ty0 k)) (hnm : ∀ a, a < N → ∀ b, b < N → a ≠ b → (T a).2.1 ≠ (T b).2.1) (q0 : Nat) {fs : List Value} (he : ws[q0]? = some (a, .inr (ci, fs))) (hc : vwCl[ci]? = some (C, T, N)) (k : Nat) (hk : k < N) (hlink : Cond.fieldLink own index (T k).1 (T k).2.1 (T k).2.2.1 ∈ xAll) (hfin : (T k).2.2.2 = true) (hdecl : (T k).1 = own) {v : Value} (hn : narrow (ty0 k) v = v) (hfit : fits (ty0 k) v = true) (hl : k < fs.length) {ws' : va_W} (hs : ws.set q0 (a, .inr (ci, fs.set k v)) = ws')
    (hdg : decode cc pc = .ok (.putfield index, 3)) (kk : ∀ (H1 : Heap) (locs1 : List Loc), xW D tys A H0 H1 locs1 ws' s → W p l e R s m args below meth c H1 locs1 cells slots Q (F0 m (pc + 3) ls rest)) : W p l e R s m args below meth c H locs cells slots Q (F0 m pc ls (v :: .ref a :: rest)) := by
  subst hs
  exact va_putF S.1 S.2.1 S.2.2.2.2 hin ty0 hty hnm S.2.2.2.1 hw.1.1 hw.2.1 hw.2.2.1 hw.2.2.2.1 q0 he hc k hk (S.2.2.2.2 _ hlink) (fun _ h => h) hfin hin2 hdecl (hty k hk) hn hfit hl hdg (fun H1 locs1 hP hD hS => kk H1 locs1 ⟨hw.1, hP, hD, hS, hw.2.2.2.2⟩)
/-- int arrays -/
theorem x_iald (S : CallFix p m c cc nL s args xAll own) (hw : xW D tys A H0 H locs ws s) (q0 t0 : Nat) {cA : ClassId} {n : Nat} {f : Nat → Int32} (ha : ws[q0]? = some (a, .inl (cA, n, .inl f))) (ht : tys[t0]? = some (cA, .int)) {i : Int32} {j : Nat} (hin : vp_in i n) (hj : i.toNatClampNeg = j) (hdg : decode cc pc = .ok (.iaload, 1))
    (kk : W p l e R s m args below meth c H locs cells slots Q (F0 m (pc + 1) ls (.int (f j) :: rest))) : W p l e R s m args below meth c H locs cells slots Q (F0 m pc ls (.int i :: .ref a :: rest)) := by
  subst hj
  exact va_iald S.1 S.2.1 hw.1.1 hw.2.1 q0 t0 ha ht hin hdg kk
theorem x_iast (S : CallFix p m c cc nL s args xAll own) (hw : xW D tys A H0 H locs ws s) (q0 t0 : Nat) {cA : ClassId} {n : Nat} {f : Nat → Int32} (ha : ws[q0]? = some (a, .inl (cA, n, .inl f))) (ht : tys[t0]? = some (cA, .int)) {i x : Int32} {j : Nat} (hin : vp_in i n) (hj : i.toNatClampNeg = j) {ws' : va_W} (hs : ws.set q0 (a, .inl (cA, n, .inl (upd f j x))) = ws') (hdg : decode cc pc = .ok (.iastore, 1))
    (kk : ∀ (H1 : Heap) (locs1 : List Loc), xW D tys A H0 H1 locs1 ws' s → W p l e R s m args below meth c H1 locs1 cells slots Q (F0 m (pc + 1) ls rest)) : W p l e R s m args below meth c H locs cells slots Q (F0 m pc ls (.int x :: .int i :: .ref a :: rest)) := by
  subst hj
  subst hs
  exact va_iast S.1 S.2.1 hw.1.1 hw.2.1 hw.2.2.1 hw.2.2.2.1 q0 t0 ha ht hin hdg (fun H1 locs1 hP hD hS => kk H1 locs1 ⟨hw.1, hP, hD, hS, hw.2.2.2.2⟩)
/-- boolean arrays -/
theorem x_zald (S : CallFix p m c cc nL s args xAll own) (hw : xW D tys A H0 H locs ws s) (q0 t0 : Nat) {cA : ClassId} {n : Nat} {f : Nat → Int32} (ha : ws[q0]? = some (a, .inl (cA, n, .inl f))) (ht : tys[t0]? = some (cA, .boolean)) {i : Int32} {j : Nat} (hin : vp_in i n) (hj : i.toNatClampNeg = j) (hdg : decode cc pc = .ok (.baload, 1))
    (kk : W p l e R s m args below meth c H locs cells slots Q (F0 m (pc + 1) ls (.int (f j) :: rest))) : W p l e R s m args below meth c H locs cells slots Q (F0 m pc ls (.int i :: .ref a :: rest)) := by
  subst hj
  exact va_zald S.1 S.2.1 hw.1.1 hw.2.1 q0 t0 ha ht hin hdg kk
theorem x_zast (S : CallFix p m c cc nL s args xAll own) (hw : xW D tys A H0 H locs ws s) (q0 t0 : Nat) {cA : ClassId} {n : Nat} {f : Nat → Int32} (ha : ws[q0]? = some (a, .inl (cA, n, .inl f))) (ht : tys[t0]? = some (cA, .boolean)) {i x : Int32} {j : Nat} (hin : vp_in i n) (hj : i.toNatClampNeg = j) (hx : vp_nar .boolean x = x) {ws' : va_W} (hs : ws.set q0 (a, .inl (cA, n, .inl (upd f j x))) = ws') (hdg : decode cc pc = .ok (.bastore, 1))
    (kk : ∀ (H1 : Heap) (locs1 : List Loc), xW D tys A H0 H1 locs1 ws' s → W p l e R s m args below meth c H1 locs1 cells slots Q (F0 m (pc + 1) ls rest)) : W p l e R s m args below meth c H locs cells slots Q (F0 m pc ls (.int x :: .int i :: .ref a :: rest)) := by
  subst hj
  subst hs
  exact va_zast S.1 S.2.1 hw.1.1 hw.2.1 hw.2.2.1 hw.2.2.2.1 q0 t0 ha ht hin hdg (fun H1 locs1 hP hD hS => kk H1 locs1 (by rw [hx] at hP hD; exact ⟨hw.1, hP, hD, hS, hw.2.2.2.2⟩))
theorem x_alen (S : CallFix p m c cc nL s args xAll own) (hw : xW D tys A H0 H locs ws s) (q0 t0 : Nat) {cA : ClassId} {x : vp_A} (ha : ws[q0]? = some (a, .inl (cA, x))) {ty : FieldType} (ht : tys[t0]? = some (cA, ty)) {v : Int32} (hv : Int32.ofNat x.1 = v) (hdg : decode cc pc = .ok (.arraylength, 1))
    (kk : W p l e R s m args below meth c H locs cells slots Q (F0 m (pc + 1) ls (.int v :: rest))) : W p l e R s m args below meth c H locs cells slots Q (F0 m pc ls (.ref a :: rest)) :=
  va_alen S.1 S.2.1 hw.1.1 hw.2.1 q0 t0 ha ht hv hdg kk
/-- arrays of references -/
theorem x_aald (S : CallFix p m c cc nL s args xAll own) (hw : xW D tys A H0 H locs ws s) (q0 t0 : Nat) {cA : ClassId} {C : String} {n : Nat} {f : Nat → Option Nat} (ha : ws[q0]? = some (a, .inl (cA, n, .inr (.inr (.inr (.inr f)))))) (ht : tys[t0]? = some (cA, .object C)) {i : Int32} {j : Nat} (hin : vp_in i n) (hj : i.toNatClampNeg = j) {v : Value} (hv : va_rf (f j) = v) (hdg : decode cc pc = .ok (.aaload, 1))
    (kk : W p l e R s m args below meth c H locs cells slots Q (F0 m (pc + 1) ls (v :: rest))) : W p l e R s m args below meth c H locs cells slots Q (F0 m pc ls (.int i :: .ref a :: rest)) := by
  subst hj
  subst hv
  exact va_aldq S.1 S.2.1 hw.1.1 hw.2.1 q0 t0 ha ht hin hdg kk
theorem x_aast (S : CallFix p m c cc nL s args xAll own) (hw : xW D tys A H0 H locs ws s) (q0 t0 qk ci : Nat) {cA : ClassId} {r : vw_C} {n v : Nat} {vs : List Value} {f : Nat → Option Nat} (ha : ws[q0]? = some (a, .inl (cA, n, .inr (.inr (.inr (.inr f)))))) (ht : tys[t0]? = some (cA, .object r.1)) (hv : ws[qk]? = some (v, .inr (ci, vs))) (hc : vwCl[ci]? = some r) {i : Int32} {j : Nat} (hin : vp_in i n) (hj : i.toNatClampNeg = j) {ws' : va_W} (hs : ws.set q0 (a, .inl (cA, n, .inr (.inr (.inr (.inr (va_up f j (some v))))))) = ws') (hdg : decode cc pc = .ok (.aastore, 1))
    (kk : ∀ (H1 : Heap) (locs1 : List Loc), xW D tys A H0 H1 locs1 ws' s → W p l e R s m args below meth c H1 locs1 cells slots Q (F0 m (pc + 1) ls rest)) : W p l e R s m args below meth c H locs cells slots Q (F0 m pc ls (.ref v :: .int i :: .ref a :: rest)) := by
  subst hj
  subst hs
  exact va_astq S.1 S.2.1 hw.1.1 hw.2.1 hw.2.2.1 hw.2.2.2.1 q0 t0 qk ci ha ht hv hc hin hdg (fun H1 locs1 hP hD hS => kk H1 locs1 ⟨hw.1, hP, hD, hS, hw.2.2.2.2⟩)
/-- ends -/
theorem x_iret (S : CallFix p m c cc nL s args xAll own) (hr : meth.sig.returnType = some .int) (hlk : meth.locks = false) (hw : xW D tys A s.heap H locs ws s) {mc ms : Nat} (h1 : cells ≤ mc) (h2 : slots ≤ ms) {post : Int32 → va_W → Prop} {v : Int32} (hp : post v ws) (hdg : decode cc pc = .ok (.ireturn, 1)) :
    W p l e R s m args below meth c H locs cells slots (MQ below (va_Qi post (xB D A) A) args s mc ms A) (F0 m pc ls [.int v]) :=
  W.widen h1 h2 (W.iret S.1 S.2.1 hr (fun _ ht _ => ⟨⟨v, ws, rfl, hp, by rw [ht]; exact hw.2.1, hw.2.2.1⟩, hw.2.2.2.1.F ht⟩) hw.2.2.2.1.2.2 hdg hlk)
theorem x_zret (S : CallFix p m c cc nL s args xAll own) (hr : meth.sig.returnType = some .boolean) (hlk : meth.locks = false) (hw : xW D tys A s.heap H locs ws s) {mc ms : Nat} (h1 : cells ≤ mc) (h2 : slots ≤ ms) {post : Int32 → va_W → Prop} {v : Int32} (hn : narrow .boolean (.int v) = .int v) (hp : post v ws) (hdg : decode cc pc = .ok (.ireturn, 1)) :
    W p l e R s m args below meth c H locs cells slots (MQ below (va_Qi post (xB D A) A) args s mc ms A) (F0 m pc ls [.int v]) :=
  W.widen h1 h2 (W.zret S.1 S.2.1 hr hn (fun _ ht _ => ⟨⟨v, ws, rfl, hp, by rw [ht]; exact hw.2.1, hw.2.2.1⟩, hw.2.2.2.1.F ht⟩) hw.2.2.2.1.2.2 hdg hlk)
theorem x_lret (S : CallFix p m c cc nL s args xAll own) (hr : meth.sig.returnType = some .long) (hlk : meth.locks = false) (hw : xW D tys A s.heap H locs ws s) {mc ms : Nat} (h1 : cells ≤ mc) (h2 : slots ≤ ms) {post : Int64 → va_W → Prop} {v : Int64} (hp : post v ws) (hdg : decode cc pc = .ok (.lreturn, 1)) :
    W p l e R s m args below meth c H locs cells slots (MQ below (va_Ql post (xB D A) A) args s mc ms A) (F0 m pc ls [.long v]) :=
  W.widen h1 h2 (W.lret S.1 S.2.1 hr (fun _ ht _ => ⟨⟨v, ws, rfl, hp, by rw [ht]; exact hw.2.1, hw.2.2.1⟩, hw.2.2.2.1.F ht⟩) hw.2.2.2.1.2.2 hdg hlk)
theorem x_vret (S : CallFix p m c cc nL s args xAll own) (hr : meth.sig.returnType = none) (hlk : meth.locks = false) (hw : xW D tys A s.heap H locs ws s) {mc ms : Nat} (h1 : cells ≤ mc) (h2 : slots ≤ ms) {post : va_W → Prop} (hp : post ws) (hdg : decode cc pc = .ok (.return_, 1)) :
    W p l e R s m args below meth c H locs cells slots (MQ below (va_Qv post (xB D A) A) args s mc ms A) (F0 m pc ls []) :=
  W.widen h1 h2 (W.vret S.1 S.2.1 hr (fun _ ht _ => ⟨⟨ws, rfl, hp, by rw [ht]; exact hw.2.1, hw.2.2.1⟩, hw.2.2.2.1.F ht⟩) hw.2.2.2.1.2.2 hdg hlk)
theorem x_aret (S : CallFix p m c cc nL s args xAll own) {rt : FieldType} (hr : meth.sig.returnType = some rt) (hrt : (∃ n, rt = .object n) ∨ ∃ t, rt = .array t) (hlk : meth.locks = false) (hw : xW D tys A s.heap H locs ws s) {mc ms : Nat} (h1 : cells ≤ mc) (h2 : slots ≤ ms) {post : Option Nat → va_W → Prop} {r : Option Nat} {v : Value} (hv : va_rf r = v) (hp : post r ws) (hdg : decode cc pc = .ok (.areturn, 1)) :
    W p l e R s m args below meth c H locs cells slots (MQ below (va_Qq post (xB D A) A) args s mc ms A) (F0 m pc ls [v]) := by
  subst hv
  exact W.widen h1 h2 (W.aret S.1 S.2.1 hr hrt (va_rf_or r) (fun _ ht _ => ⟨⟨r, ws, rfl, hp, by rw [ht]; exact hw.2.1, hw.2.2.1⟩, hw.2.2.2.1.F ht⟩) hw.2.2.2.1.2.2 hdg hlk)
end XR
