/-! What ties the class's state to the reference's. -/
theorem byte_of {v : Int32} (h : ¬ fIsB v = 0) : ∃ b, b < 256 ∧ v = nI b := by
  obtain ⟨h1, h2⟩ := isB_of h
  obtain ⟨j, hj, rfl⟩ := nI_of h1
  exact ⟨j, Nat.lt_of_not_le (fun z => h2 (nI_lt (a := 255) (b := j) (by omega) hj)), rfl⟩
theorem isB_nI {b : Nat} (h : b < 256) : ¬ fIsB (nI b) = 0 := by
  unfold fIsB
  have h2 : ¬ (255 : Int32) < nI b := nI_nlt (a := 255) (b := b) (by omega) (by decide)
  rw [if_neg (nI_pos (by omega)), if_neg h2]
  decide
theorem idx_of (v : Int32) {n : Nat} (hn : n ≤ 1000) : (v < 0 ∨ nI n ≤ v) ∨ ∃ j, j < n ∧ v = nI j := by
  rcases pk_ix v (n := n) (by omega) with h | h | h
  · exact Or.inl (Or.inl h)
  · exact Or.inl (Or.inr h)
  · exact Or.inr h
theorem le_of (v : Int32) {n : Nat} (hn : n ≤ 1000) : (v < 0 ∨ nI n < v) ∨ ∃ j, j ≤ n ∧ v = nI j := by
  by_cases h1 : v < 0
  · exact Or.inl (Or.inl h1)
  · obtain ⟨j, hj, rfl⟩ := nI_of h1
    by_cases h2 : j ≤ n
    · exact Or.inr ⟨j, h2, rfl⟩
    · exact Or.inl (Or.inr (nI_lt (by omega) hj))
def Rb (z0 : Nat) (bs : Nat → Int32) : Prop := z0 ≤ 16 ∧ ∀ j, j < z0 → ∃ b, b < 256 ∧ bs j = nI b
def Rm (n1 : Nat) (mk : Nat → Option Nat) (vq : Nat → Nat → Nat) : Prop := ∀ k, k < n1 → mk k = some (vq k 0)
def Ra (n1 : Nat) (act : Option Nat) (st : Nat → Int32) (vq : Nat → Nat → Nat) : Prop := (act = none ∧ ∀ k, k < n1 → ¬ st k = 1) ∨ ∃ k, k < n1 ∧ act = some (vq k 0) ∧ st k = 1 ∧ ∀ j, j < n1 → j ≠ k → ¬ st j = 1
def Rv (n1 : Nat) (su tt zz dd hh gg : Nat → Int32) (vd vg : Nat → Nat → Int32) : Prop := ∀ k, k < 8 → (∃ t z : Nat, tt k = nI t ∧ zz k = nI z ∧ t ≤ z ∧ z ≤ 8 ∧ (¬ su k = 0 → gtF gg k 8 < t) ∧ ∀ i, 1 ≤ i → i ≤ z → vd k i = dd (9 * k + i)) ∧ (∀ i, 1 ≤ i → i ≤ 8 → ¬ gg (9 * k + i) = 0 → vg k i = hh (9 * k + i)) ∧ (su k = 0 → ∀ i, 1 ≤ i → i ≤ 8 → gg (9 * k + i) = 0) ∧ (n1 ≤ k → tt k = 0 ∧ zz k = 0 ∧ su k = 0)
/-- all versions but for one; one in front -/
def vcs (v : Nat → va_W → va_W) : Nat → va_W → va_W
  | 0, tl => tl
  | k + 1, tl => v k (vcs v k tl)
def vcx (v : Nat → va_W → va_W) (k : Nat) : Nat → va_W → va_W
  | 0, tl => tl
  | j + 1, tl => if j = k then vcx v k j tl else v j (vcx v k j tl)
def vfun (cI : ClassId) (vq : Nat → Nat → Nat) (st se su tt zz gg : Nat → Int32) (vd vg : Nat → Nat → Int32) (k : Nat) (tl : va_W) : va_W := verX cI (vq k 0) (vq k 1) (vq k 2) k (vd k) (vg k) (st k) (se k) (su k) (tt k) (zz k) (nI (gsF gg k 8)) (nI (gtF gg k 8)) tl
theorem vcx_ge {v : Nat → va_W → va_W} {k : Nat} : ∀ (n : Nat) (tl : va_W), n ≤ k → vcx v k n tl = vcs v n tl
  | 0, _, _ => rfl
  | n + 1, tl, h => by
    show (if n = k then _ else _) = _
    rw [if_neg (by omega), vcx_ge n tl (by omega)]
    rfl
theorem vcs_perm {v : Nat → va_W → va_W} (hv : ∀ k tl, v k tl = v k [] ++ tl) {k : Nat} : ∀ (n : Nat) (tl : va_W), k < n → (vcs v n tl).Perm (v k (vcx v k n tl))
  | 0, _, h => absurd h (Nat.not_lt_zero k)
  | n + 1, tl, h => by
    by_cases e : n = k
    · subst e
      show (v n (vcs v n tl)).Perm (v n (if n = n then _ else _))
      rw [if_pos rfl, vcx_ge n tl (Nat.le_refl n)]
    · show (v n (vcs v n tl)).Perm (v k (if n = k then _ else v n (vcx v k n tl)))
      rw [if_neg e]
      have ih := vcs_perm hv (k := k) n tl (by omega)
      rw [hv n (vcs v n tl)]
      refine (ih.append_left _).trans ?_
      have e1 := hv k (vcx v k n tl)
      have e2 := hv n (vcx v k n tl)
      have e3 := hv k (v n (vcx v k n tl))
      rw [e1, e3, e2]
      exact List.perm_append_comm_assoc _ _ _
theorem vcx_congr {v v' : Nat → va_W → va_W} {k : Nat} : ∀ (n : Nat) (tl : va_W), (∀ j, j < n → j ≠ k → v j = v' j) → vcx v k n tl = vcx v' k n tl
  | 0, _, _ => rfl
  | n + 1, tl, h => by
    show (if n = k then vcx v k n tl else v n (vcx v k n tl)) = (if n = k then vcx v' k n tl else v' n (vcx v' k n tl))
    rw [vcx_congr n tl (fun j hj => h j (by omega))]
    by_cases e : n = k
    · rw [if_pos e, if_pos e]
    · rw [if_neg e, if_neg e, h n (by omega) e]
theorem vfun_app {cI : ClassId} {vq : Nat → Nat → Nat} {st se su tt zz gg : Nat → Int32} {vd vg : Nat → Nat → Int32} (k : Nat) (tl : va_W) : vfun cI vq st se su tt zz gg vd vg k tl = vfun cI vq st se su tt zz gg vd vg k [] ++ tl := rfl
theorem bigX_perm {a : Nat → Nat} {cI cZ cV : ClassId} {f n c0 z0 n0 n1 : Nat} {ctr : Int32} {act : Option Nat} {mk : Nat → Option Nat} {ring ks ns ds ss bs sh C pu st se su tt zz dd hh gg xx yy : Nat → Int32} {t t' : va_W} (h : t.Perm t') : (bigX a cI cZ cV f n c0 z0 n0 n1 ctr act mk ring ks ns ds ss bs sh C pu st se su tt zz dd hh gg xx yy t).Perm (bigX a cI cZ cV f n c0 z0 n0 n1 ctr act mk ring ks ns ds ss bs sh C pu st se su tt zz dd hh gg xx yy t') := by
  unfold bigX
  repeat apply List.Perm.cons
  exact h
/-- what holds at the head of the law's loop -/
def St (a : Nat → Nat) (D : va_G) (A : Nat → Prop) (cI cZ cV : ClassId) (s : State) (H : Heap) (locs : List Loc) : Prop :=
  ∃ (f n c0 z0 n0 n1 : Nat) (ctr : Int32) (act : Option Nat) (mk : Nat → Option Nat) (ring ks ns ds ss bs sh C pu st se su tt zz dd hh gg xx yy : Nat → Int32) (vq : Nat → Nat → Nat) (vd vg : Nat → Nat → Int32), xW D (xT3 cI cZ cV) A s.heap H locs (bigX a cI cZ cV f n c0 z0 n0 n1 ctr act mk ring ks ns ds ss bs sh C pu st se su tt zz dd hh gg xx yy (vcs (vfun cI vq st se su tt zz gg vd vg) n1 [])) s ∧ Rcoin ring pu f n ∧ c0 ≤ 80 ∧ Rb z0 bs ∧ n0 ≤ 8 ∧ n1 ≤ 8 ∧ Rm n1 mk vq ∧ Ra n1 act st vq ∧ Rv n1 su tt zz dd hh gg vd vg
