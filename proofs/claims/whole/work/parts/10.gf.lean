/-! The field of the bytes: a product on Nat, its laws (by logarithms, and by bits), inverses, and the two ways of putting points together. -/
def xt (a : Nat) : Nat := Nat.xor (Nat.mul 2 a) (Nat.mul 283 (Nat.div a 128))
def xtn : Nat → Nat → Nat
  | 0, a => a
  | k + 1, a => xt (xtn k a)
/-- the product of two bytes -/
def gm (a b : Nat) : Nat := Nat.xor (Nat.xor (Nat.xor (Nat.xor (Nat.xor (Nat.xor (Nat.xor (Nat.mul (Nat.mod b 2) a) (Nat.mul (Nat.mod (Nat.div b 2) 2) (xt a))) (Nat.mul (Nat.mod (Nat.div b 4) 2) (xt (xt a)))) (Nat.mul (Nat.mod (Nat.div b 8) 2) (xt (xt (xt a))))) (Nat.mul (Nat.mod (Nat.div b 16) 2) (xt (xt (xt (xt a)))))) (Nat.mul (Nat.mod (Nat.div b 32) 2) (xt (xt (xt (xt (xt a))))))) (Nat.mul (Nat.mod (Nat.div b 64) 2) (xt (xt (xt (xt (xt (xt a)))))))) (Nat.mul (Nat.mod (Nat.div b 128) 2) (xt (xt (xt (xt (xt (xt (xt a))))))))
def exT : Nat := 121466575815500734415996836054882879791832871126464106601702187317037704638720699736399773789881350966450612456712855012027411276600174289287471020404625812305602624065235109912861702064162581238381248958448422203687095403783548669481020115429473714815130546491650907227391014769411226625179674495964331439187933946584331397333639979447433688574122779091165484305754955373075414835846686739481168846087332879005575464100018941681806164995707250399423063311368515928344698269234575261926727907427524598329539937222090466892085999338983806607642276495436692919915470849325341672618663070658392065151738926641076044545
def lgT : Nat := 939374623831894136699086600277250597547650664638770418422125146541797353646788332867483593573384618611044815625336497665827114626705134492515730415652478061620339993830966980270842846318821775850471098591710629241171812800746666233448222972174585295916389942636813666312872914849454985560152530477328703759683306625234997237483834721220409437442253146756845415190424543171129629468776480674528486868811725071010351012234056630775688111116293610821126543142160426617079940511630006820862697466582575257349116925728488930366609138264019883664906661504235885380294353134295748489096855100647154935187045898006656778240
def ivT : Nat := 265709984687591223577153867656393982208
def ex (i : Nat) : Nat := Nat.land (Nat.shiftRight exT (Nat.mul 8 i)) 255
def lg (a : Nat) : Nat := Nat.land (Nat.shiftRight lgT (Nat.mul 8 a)) 255
def iv (a : Nat) : Nat := Nat.land (Nat.shiftRight ivT (Nat.mul 8 a)) 255
theorem ex_lt (i : Nat) : ex i < 256 := Nat.lt_of_le_of_lt Nat.and_le_right (by decide)
theorem ex_lg : ∀ a, a < 256 → a ≠ 0 → lg a < 255 ∧ ex (lg a) = a := by decide +kernel
theorem ex_ne : ∀ i, i < 255 → ex i ≠ 0 := by decide +kernel
theorem ex_0 : ex 0 = 1 := by decide +kernel
set_option maxRecDepth 100000 in
theorem gm_ex : ∀ i, i < 255 → ∀ j, j < 255 → gm (ex i) (ex j) = ex (Nat.mod (Nat.add i j) 255) := by decide +kernel
theorem gm_0l : ∀ b, b < 256 → gm 0 b = 0 := by decide +kernel
theorem gm_0r : ∀ a, a < 256 → gm a 0 = 0 := by decide +kernel
theorem gm_1r : ∀ a, a < 256 → gm a 1 = a := by decide +kernel
theorem gm_1l : ∀ a, a < 256 → gm 1 a = a := by decide +kernel
theorem ex_of {a : Nat} (h : a < 256) (h0 : a ≠ 0) : ∃ i, i < 255 ∧ a = ex i := ⟨lg a, (ex_lg a h h0).1, (ex_lg a h h0).2.symm⟩
theorem gm_e {i j : Nat} (hi : i < 255) (hj : j < 255) : gm (ex i) (ex j) = ex ((i + j) % 255) := gm_ex i hi j hj
theorem gm_lt {a b : Nat} (ha : a < 256) (hb : b < 256) : gm a b < 256 := by
  by_cases h1 : a = 0
  · subst h1; rw [gm_0l b hb]; decide
  · by_cases h2 : b = 0
    · subst h2; rw [gm_0r a ha]; decide
    · obtain ⟨i, hi, rfl⟩ := ex_of ha h1
      obtain ⟨j, hj, rfl⟩ := ex_of hb h2
      rw [gm_e hi hj]
      exact ex_lt _
theorem gm_comm {a b : Nat} (ha : a < 256) (hb : b < 256) : gm a b = gm b a := by
  by_cases h1 : a = 0
  · subst h1; rw [gm_0l b hb, gm_0r b hb]
  · by_cases h2 : b = 0
    · subst h2; rw [gm_0r a ha, gm_0l a ha]
    · obtain ⟨i, hi, rfl⟩ := ex_of ha h1
      obtain ⟨j, hj, rfl⟩ := ex_of hb h2
      rw [gm_e hi hj, gm_e hj hi, Nat.add_comm]
theorem gm_assoc {a b c : Nat} (ha : a < 256) (hb : b < 256) (hc : c < 256) : gm (gm a b) c = gm a (gm b c) := by
  by_cases h1 : a = 0
  · subst h1; rw [gm_0l b hb, gm_0l c hc, gm_0l _ (gm_lt hb hc)]
  · by_cases h2 : b = 0
    · subst h2; rw [gm_0r a ha, gm_0l c hc, gm_0r a ha]
    · by_cases h3 : c = 0
      · subst h3; rw [gm_0r b hb, gm_0r a ha, gm_0r _ (gm_lt ha hb)]
      · obtain ⟨i, hi, rfl⟩ := ex_of ha h1
        obtain ⟨j, hj, rfl⟩ := ex_of hb h2
        obtain ⟨k, hk, rfl⟩ := ex_of hc h3
        rw [gm_e hi hj, gm_e hj hk, gm_e (Nat.mod_lt _ (by decide)) hk, gm_e hi (Nat.mod_lt _ (by decide))]
        congr 1
        omega
/-- bits -/
theorem xor_bit {p q : Nat} (a : Nat) (hp : p < 2) (hq : q < 2) : (Nat.xor p q) * a = Nat.xor (p * a) (q * a) := by
  rcases (show p = 0 ∨ p = 1 by omega) with rfl | rfl <;> rcases (show q = 0 ∨ q = 1 by omega) with rfl | rfl
  · show (0 ^^^ 0) * a = (0 * a) ^^^ (0 * a); simp
  · show (0 ^^^ 1) * a = (0 * a) ^^^ (1 * a); simp
  · show (1 ^^^ 0) * a = (1 * a) ^^^ (0 * a); simp
  · show (1 ^^^ 1) * a = (1 * a) ^^^ (1 * a); simp
theorem bit_xor (b c k : Nat) : (b ^^^ c) / 2 ^ k % 2 = Nat.xor (b / 2 ^ k % 2) (c / 2 ^ k % 2) := by
  have h : ∀ x : Nat, x / 2 ^ k % 2 = (x.testBit k).toNat := fun x => by
    rw [Nat.testBit_eq_decide_div_mod_eq]
    rcases Nat.mod_two_eq_zero_or_one (x / 2 ^ k) with h | h <;> rw [h] <;> rfl
  rw [h, h, h, Nat.testBit_xor]
  cases b.testBit k <;> cases c.testBit k <;> rfl
theorem bit_xor' (b c k m : Nat) (hm : m = 2 ^ k) (a : Nat) : (b ^^^ c) / m % 2 * a = (b / m % 2 * a) ^^^ (c / m % 2 * a) := by
  subst hm
  rw [bit_xor]
  exact xor_bit a (Nat.mod_lt _ (by decide)) (Nat.mod_lt _ (by decide))
theorem xor4 (a b c d : Nat) : (a ^^^ b) ^^^ (c ^^^ d) = (a ^^^ c) ^^^ (b ^^^ d) := by
  rw [Nat.xor_assoc, Nat.xor_assoc, ← Nat.xor_assoc b c d, ← Nat.xor_assoc c b d, Nat.xor_comm b c]
theorem xor16 (p0 p1 p2 p3 p4 p5 p6 p7 q0 q1 q2 q3 q4 q5 q6 q7 : Nat) : ((((((((p0 ^^^ q0) ^^^ (p1 ^^^ q1)) ^^^ (p2 ^^^ q2)) ^^^ (p3 ^^^ q3)) ^^^ (p4 ^^^ q4)) ^^^ (p5 ^^^ q5)) ^^^ (p6 ^^^ q6)) ^^^ (p7 ^^^ q7)) = (((((((p0 ^^^ p1) ^^^ p2) ^^^ p3) ^^^ p4) ^^^ p5) ^^^ p6) ^^^ p7) ^^^ (((((((q0 ^^^ q1) ^^^ q2) ^^^ q3) ^^^ q4) ^^^ q5) ^^^ q6) ^^^ q7) := by ac_rfl
theorem gm_xr (a b c : Nat) : gm a (b ^^^ c) = gm a b ^^^ gm a c := by
  have h0 : (b ^^^ c) % 2 * a = (b % 2 * a) ^^^ (c % 2 * a) := by
    have := bit_xor' b c 0 1 rfl a
    rwa [Nat.div_one, Nat.div_one, Nat.div_one] at this
  show ((((((((b ^^^ c) % 2 * a) ^^^ ((b ^^^ c) / 2 % 2 * xt a)) ^^^ ((b ^^^ c) / 4 % 2 * xt (xt a))) ^^^ ((b ^^^ c) / 8 % 2 * xt (xt (xt a)))) ^^^ ((b ^^^ c) / 16 % 2 * xt (xt (xt (xt a))))) ^^^ ((b ^^^ c) / 32 % 2 * xt (xt (xt (xt (xt a)))))) ^^^ ((b ^^^ c) / 64 % 2 * xt (xt (xt (xt (xt (xt a))))))) ^^^ ((b ^^^ c) / 128 % 2 * xt (xt (xt (xt (xt (xt (xt a)))))))
    = (((((((b % 2 * a) ^^^ (b / 2 % 2 * xt a)) ^^^ (b / 4 % 2 * xt (xt a))) ^^^ (b / 8 % 2 * xt (xt (xt a)))) ^^^ (b / 16 % 2 * xt (xt (xt (xt a))))) ^^^ (b / 32 % 2 * xt (xt (xt (xt (xt a)))))) ^^^ (b / 64 % 2 * xt (xt (xt (xt (xt (xt a))))))) ^^^ (b / 128 % 2 * xt (xt (xt (xt (xt (xt (xt a)))))))
    ^^^ ((((((((c % 2 * a) ^^^ (c / 2 % 2 * xt a)) ^^^ (c / 4 % 2 * xt (xt a))) ^^^ (c / 8 % 2 * xt (xt (xt a)))) ^^^ (c / 16 % 2 * xt (xt (xt (xt a))))) ^^^ (c / 32 % 2 * xt (xt (xt (xt (xt a)))))) ^^^ (c / 64 % 2 * xt (xt (xt (xt (xt (xt a))))))) ^^^ (c / 128 % 2 * xt (xt (xt (xt (xt (xt (xt a))))))))
  rw [h0, bit_xor' b c 1 2 rfl, bit_xor' b c 2 4 rfl, bit_xor' b c 3 8 rfl, bit_xor' b c 4 16 rfl, bit_xor' b c 5 32 rfl, bit_xor' b c 6 64 rfl, bit_xor' b c 7 128 rfl]
  exact xor16 _ _ _ _ _ _ _ _ _ _ _ _ _ _ _ _
theorem xor_lt {a b : Nat} (ha : a < 256) (hb : b < 256) : a ^^^ b < 256 := Nat.xor_lt_two_pow (n := 8) ha hb
theorem gm_xl {a b c : Nat} (ha : a < 256) (hb : b < 256) (hc : c < 256) : gm (a ^^^ b) c = gm a c ^^^ gm b c := by
  rw [gm_comm (xor_lt ha hb) hc, gm_xr, gm_comm hc ha, gm_comm hc hb]
theorem iv_ok : ∀ a, a < 16 → a ≠ 0 → gm a (iv a) = 1 ∧ iv a < 256 := by decide +kernel
theorem iv_lt (a : Nat) : iv a < 256 := Nat.lt_of_le_of_lt Nat.and_le_right (by decide)
/-- what the class calls inverse: the power 254 -/
def gv : Nat → Nat → Nat × Nat
  | 0, a => (a, 1)
  | k + 1, a => (gm (gv k a).1 (gv k a).1, gm (gv k a).2 (gm (gv k a).1 (gv k a).1))
theorem gv_ok : ∀ a, a < 16 → a ≠ 0 → (gv 7 a).2 = iv a := by decide +kernel
/-- a quotient is found by search -/
theorem gm_div {a b q : Nat} (ha : a < 256) (hb : b < 16) (h0 : b ≠ 0) (hq : q < 256) : gm q b = a ↔ q = gm a (iv b) := by
  have hb' : b < 256 := by omega
  have h1 := (iv_ok b hb h0).1
  constructor
  · intro h
    rw [← h, gm_assoc hq hb' (iv_lt b), h1, gm_1r q hq]
  · intro h
    rw [h, gm_assoc ha (iv_lt b) hb', gm_comm (iv_lt b) hb', h1, gm_1r a ha]
/-- the weight of point i among the first n points X 0 .. X (n-1), at 0 -/
def wgt (X : Nat → Nat) (i : Nat) : Nat → Nat
  | 0 => 1
  | n + 1 => if n = i then wgt X i n else gm (wgt X i n) (gm (X n) (iv (X n ^^^ X i)))
def xsum (f : Nat → Nat) : Nat → Nat
  | 0 => 0
  | n + 1 => xsum f n ^^^ f n
theorem xsum_congr {f g : Nat → Nat} : ∀ {n : Nat}, (∀ i, i < n → f i = g i) → xsum f n = xsum g n
  | 0, _ => rfl
  | n + 1, h => by
    show xsum f n ^^^ f n = xsum g n ^^^ g n
    rw [xsum_congr (n := n) (fun i hi => h i (by omega)), h n (by omega)]
theorem xsum_lt {f : Nat → Nat} : ∀ {n : Nat}, (∀ i, i < n → f i < 256) → xsum f n < 256
  | 0, _ => by show 0 < 256; decide
  | n + 1, h => xor_lt (xsum_lt (n := n) (fun i hi => h i (by omega))) (h n (by omega))
theorem xsum_xor {f g : Nat → Nat} : ∀ {n : Nat}, xsum (fun i => f i ^^^ g i) n = xsum f n ^^^ xsum g n
  | 0 => by show 0 = 0 ^^^ 0; decide
  | n + 1 => by
    show xsum _ n ^^^ (f n ^^^ g n) = (xsum f n ^^^ f n) ^^^ (xsum g n ^^^ g n)
    rw [xsum_xor (n := n), xor4]
theorem xsum_gm {f : Nat → Nat} {a : Nat} : ∀ {n : Nat}, gm a (xsum f n) = (if n = 0 then gm a 0 else xsum (fun i => gm a (f i)) n)
  | 0 => rfl
  | n + 1 => by
    show gm a (xsum f n ^^^ f n) = _
    rw [gm_xr, xsum_gm (n := n), if_neg (Nat.succ_ne_zero n)]
    by_cases h : n = 0
    · subst h
      rw [if_pos rfl]
      show gm a 0 ^^^ gm a (f 0) = 0 ^^^ gm a (f 0)
      have : gm a 0 = gm a 0 ^^^ gm a 0 := by
        have := gm_xr a 0 0
        rwa [Nat.xor_self] at this
      rw [Nat.xor_self] at this
      rw [this]
    · rw [if_neg h]
      rfl
theorem xsum_mul {f : Nat → Nat} {a n : Nat} (ha : a < 256) : gm a (xsum f n) = xsum (fun i => gm a (f i)) n := by
  rw [xsum_gm]
  by_cases h : n = 0
  · subst h; rw [if_pos rfl, gm_0r a ha]; rfl
  · rw [if_neg h]
/-- points are put together from the last one on -/
def nwt (X : Nat → Nat) : Nat → (Nat → Nat) → Nat
  | 0, Y => Y 0
  | l + 1, Y => Y (l + 1) ^^^ gm (X (l + 1)) (nwt X l (fun j => gm (Y j ^^^ Y (l + 1)) (iv (X j ^^^ X (l + 1)))))
def lgr (X : Nat → Nat) (n : Nat) (Y : Nat → Nat) : Nat := xsum (fun i => gm (Y i) (wgt X i n)) n
theorem wgt_lt {X : Nat → Nat} {i : Nat} : ∀ {n : Nat}, (∀ j, j < n → X j < 256) → wgt X i n < 256
  | 0, _ => by show 1 < 256; decide
  | n + 1, h => by
    have h1 := wgt_lt (X := X) (i := i) (n := n) (fun j hj => h j (by omega))
    unfold wgt
    split
    · exact h1
    · exact gm_lt h1 (gm_lt (h n (by omega)) (iv_lt _))
theorem nwt_lgr {X : Nat → Nat} : ∀ (l : Nat) (Y : Nat → Nat), (∀ j, j ≤ l → X j < 256) → (∀ j, j ≤ l → Y j < 256) → (∀ n, n ≤ l → xsum (fun i => wgt X i (n + 1)) (n + 1) = 1) → nwt X l Y = lgr X (l + 1) Y
  | 0, Y, hX, hY, _ => by
    show Y 0 = 0 ^^^ gm (Y 0) (if 0 = 0 then 1 else _)
    rw [if_pos rfl, gm_1r _ (hY 0 (by omega)), Nat.zero_xor]
  | l + 1, Y, hX, hY, hs => by
    have hb := hY (l + 1) (by omega)
    have hxl := hX (l + 1) (by omega)
    have ih := nwt_lgr l (fun j => gm (Y j ^^^ Y (l + 1)) (iv (X j ^^^ X (l + 1)))) (fun j hj => hX j (by omega)) (fun j hj => gm_lt (xor_lt (hY j (by omega)) hb) (iv_lt _)) (fun n hn => hs n (by omega))
    show Y (l + 1) ^^^ gm (X (l + 1)) (nwt X l _) = _
    rw [ih]
    unfold lgr
    rw [xsum_mul hxl]
    have hw : ∀ i, wgt X i (l + 1) < 256 := fun i => wgt_lt (fun j hj => hX j (by omega))
    have hw2 : ∀ i, wgt X i (l + 1 + 1) < 256 := fun i => wgt_lt (fun j hj => hX j (by omega))
    have e1 : xsum (fun i => gm (X (l + 1)) (gm (gm (Y i ^^^ Y (l + 1)) (iv (X i ^^^ X (l + 1)))) (wgt X i (l + 1)))) (l + 1)
        = xsum (fun i => gm (Y i) (wgt X i (l + 1 + 1)) ^^^ gm (Y (l + 1)) (wgt X i (l + 1 + 1))) (l + 1) := by
      apply xsum_congr
      intro i hi
      have hyi := hY i (by omega)
      have hu := xor_lt hyi hb
      have hW : wgt X i (l + 1 + 1) = gm (wgt X i (l + 1)) (gm (X (l + 1)) (iv (X (l + 1) ^^^ X i))) := by
        show (if l + 1 = i then _ else _) = _
        rw [if_neg (by omega)]
      rw [← gm_xl hyi hb (hw2 i), hW, Nat.xor_comm (X (l + 1)) (X i)]
      have hiv := iv_lt (X i ^^^ X (l + 1))
      rw [gm_assoc hu hiv (hw i), ← gm_assoc hxl hu (gm_lt hiv (hw i)), gm_comm hxl hu, gm_assoc hu hxl (gm_lt hiv (hw i)), ← gm_assoc hxl hiv (hw i), gm_comm (gm_lt hxl hiv) (hw i)]
    rw [e1, xsum_xor, ← xsum_mul hb]
    show _ = xsum (fun i => gm (Y i) (wgt X i (l + 1 + 1))) (l + 1) ^^^ gm (Y (l + 1)) (wgt X (l + 1) (l + 1 + 1))
    have h1 := hs (l + 1) (by omega)
    have h2 : xsum (fun i => wgt X i (l + 1 + 1)) (l + 1) ^^^ wgt X (l + 1) (l + 1 + 1) = 1 := h1
    have h3 : wgt X (l + 1) (l + 1 + 1) = xsum (fun i => wgt X i (l + 1 + 1)) (l + 1) ^^^ 1 := by
      exact (fun (a b : Nat) (h : a ^^^ b = 1) => (by rw [← h, ← Nat.xor_assoc, Nat.xor_self, Nat.zero_xor] : b = a ^^^ 1)) _ _ h2
    rw [h3, gm_xr, gm_1r _ hb]
    generalize gm (Y (l + 1)) (xsum (fun i => wgt X i (l + 1 + 1)) (l + 1)) = u
    generalize xsum (fun i => gm (Y i) (wgt X i (l + 1 + 1))) (l + 1) = v
    rw [Nat.xor_comm (Y (l + 1)), Nat.xor_assoc]
