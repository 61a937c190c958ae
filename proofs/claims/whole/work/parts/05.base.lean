/-! Numbers: an int as iI of an Int. -/
def iI (z : Int) : Int32 := Int32.ofInt z
theorem iI_f (z : Int) : Int32.ofInt z = iI z := rfl
theorem iI_nat (k : Nat) : Int32.ofNat k = iI k := by simp [iI, Int32.ofInt_eq_ofNat]
theorem iI_lit (n : Nat) : (OfNat.ofNat n : Int32) = iI n := iI_nat n
theorem iI_0 : (0 : Int32) = iI 0 := rfl
theorem iI_add (a b : Int) : iI a + iI b = iI (a + b) := (Int32.ofInt_add a b).symm
theorem iI_sub (a b : Int) : iI a - iI b = iI (a - b) := (Int32.ofInt_sub a b).symm
theorem iI_mul (a b : Int) : iI a * iI b = iI (a * b) := (Int32.ofInt_mul a b).symm
theorem iI_neg (a : Int) : -iI a = iI (-a) := (Int32.ofInt_neg a).symm
theorem iI_toInt {z : Int} (h1 : -2147483648 ≤ z) (h2 : z < 2147483648) : (iI z).toInt = z := by
  rw [iI, Int32.toInt_ofInt]
  exact Int.bmod_eq_of_le (by simp [Int32.size]; omega) (by simp [Int32.size]; omega)
theorem iI_of (x : Int32) : x = iI x.toInt := (Int32.ofInt_toInt x).symm
theorem iI_cl {z : Int} (h1 : 0 ≤ z) (h2 : z < 2147483648) : (iI z).toNatClampNeg = z.toNat := by
  rw [Int32.toNatClampNeg, iI_toInt (by omega) h2]
theorem iI_in {z : Int} {n : Nat} (h3 : n ≤ 1000) (h1 : 0 ≤ z) (h2 : z < n) : vp_in (iI z) n ↔ True := by
  refine iff_true_intro ?_
  rw [vp_in_iff, iI_toInt (by omega) (by omega)]
  exact ⟨h1, h2⟩
theorem iI_lt {a b : Int} (h1 : -2147483648 ≤ a) (h2 : a < 2147483648) (h3 : -2147483648 ≤ b) (h4 : b < 2147483648) : iI a < iI b ↔ a < b := by
  rw [Int32.lt_iff_toInt_lt, iI_toInt h1 h2, iI_toInt h3 h4]
theorem iI_le {a b : Int} (h1 : -2147483648 ≤ a) (h2 : a < 2147483648) (h3 : -2147483648 ≤ b) (h4 : b < 2147483648) : iI a ≤ iI b ↔ a ≤ b := by
  rw [Int32.le_iff_toInt_le, iI_toInt h1 h2, iI_toInt h3 h4]
theorem iI_eq {a b : Int} (h1 : -2147483648 ≤ a) (h2 : a < 2147483648) (h3 : -2147483648 ≤ b) (h4 : b < 2147483648) : iI a = iI b ↔ a = b := by
  constructor
  · intro h
    have := congrArg Int32.toInt h
    rwa [iI_toInt h1 h2, iI_toInt h3 h4] at this
  · exact fun h => by rw [h]
theorem iI_div {a b : Int} (h1 : -2147483648 < a) (h2 : a < 2147483648) (h3 : -2147483648 ≤ b) (h4 : b < 2147483648) : iI a / iI b = iI (a.tdiv b) := by
  apply Int32.toInt_inj.mp
  rw [Int32.toInt_div_of_ne_left, iI_toInt (by omega) h2, iI_toInt h3 h4, iI_toInt]
  · have := Int.natAbs_tdiv_le_natAbs a b; omega
  · have := Int.natAbs_tdiv_le_natAbs a b; omega
  · intro h
    have := congrArg Int32.toInt h
    rw [iI_toInt (by omega) h2] at this
    have h5 : (Int32.minValue).toInt = -2147483648 := by decide
    omega
theorem iI_rem {a b : Int} (h1 : -2147483648 < a) (h2 : a < 2147483648) (h3 : -2147483648 ≤ b) (h4 : b < 2147483648) : iI a - iI a / iI b * iI b = iI (a.tmod b) := by
  rw [iI_div h1 h2 h3 h4, iI_mul, iI_sub]
  congr 1
  have := Int.tdiv_mul_add_tmod a b
  omega
theorem i_nn (k : Nat) : (k : Int).toNat = k := Int.toNat_natCast k
theorem ite_i (c : Prop) [Decidable c] (a b : Int) : (if c then iI a else iI b) = iI (if c then a else b) := by split <;> rfl
/-- what an if that is a goal comes to -/
theorem ite_t {c : Prop} [Decidable c] {A B : Prop} (h : c) (a : A) : if c then A else B := by rw [if_pos h]; exact a
theorem ite_f {c : Prop} [Decidable c] {A B : Prop} (h : ¬ c) (b : B) : if c then A else B := by rw [if_neg h]; exact b
theorem ite_c {c : Prop} [Decidable c] {A B : Prop} (a : c → A) (b : ¬ c → B) : if c then A else B := by
  split
  · rename_i h; exact a h
  · rename_i h; exact b h
/-- the corners of an outline at o: its rows at o + 1 and o + 2 -/
def Out (h : fH) (o n : Nat) (X Y : Nat → Int) : Prop := f_get h o = .inr (2, [.ref (o + 1), .ref (o + 2), .int (iI n)]) ∧ f_get h (o + 1) = .inl (0, 10, .inl (fun j => iI (X j))) ∧ f_get h (o + 2) = .inl (0, 10, .inl (fun j => iI (Y j)))
def Rg (n : Nat) (X Y : Nat → Int) : Prop := ∀ i, i < n → 0 ≤ X i ∧ X i ≤ 15 ∧ 0 ≤ Y i ∧ Y i ≤ 15
def sd (X Y : Nat → Int) (a b c : Nat) : Int := (X b - X a) * (Y c - Y a) - (Y b - Y a) * (X c - X a)
/-- the spread at c: below 0 if a and b are more than a quarter apart -/
def dt (X Y : Nat → Int) (c a b : Nat) : Int := (X a - X c) * (X b - X c) + (Y a - Y c) * (Y b - Y c)
theorem mul_bd {a b M N : Int} (ha : -M ≤ a) (ha2 : a ≤ M) (hb : -N ≤ b) (hb2 : b ≤ N) (hM : 0 ≤ M) (hN : 0 ≤ N) : -(M * N) ≤ a * b ∧ a * b ≤ M * N := by
  have h : (a * b).natAbs ≤ (M * N).natAbs := by
    rw [Int.natAbs_mul, Int.natAbs_mul]
    exact Nat.mul_le_mul (by omega) (by omega)
  have h2 : 0 ≤ M * N := Int.mul_nonneg hM hN
  omega
theorem sd_bd {n : Nat} {X Y : Nat → Int} (h : Rg n X Y) {a b c : Nat} (ha : a < n) (hb : b < n) (hc : c < n) : -450 ≤ sd X Y a b c ∧ sd X Y a b c ≤ 450 := by
  obtain ⟨a1, a2, a3, a4⟩ := h a ha
  obtain ⟨b1, b2, b3, b4⟩ := h b hb
  obtain ⟨c1, c2, c3, c4⟩ := h c hc
  have h1 := mul_bd (a := X b - X a) (b := Y c - Y a) (M := 15) (N := 15) (by omega) (by omega) (by omega) (by omega) (by omega) (by omega)
  have h2 := mul_bd (a := Y b - Y a) (b := X c - X a) (M := 15) (N := 15) (by omega) (by omega) (by omega) (by omega) (by omega) (by omega)
  unfold sd
  omega
theorem dt_bd {n : Nat} {X Y : Nat → Int} (h : Rg n X Y) {a b c : Nat} (ha : a < n) (hb : b < n) (hc : c < n) : -450 ≤ dt X Y c a b ∧ dt X Y c a b ≤ 450 := by
  obtain ⟨a1, a2, a3, a4⟩ := h a ha
  obtain ⟨b1, b2, b3, b4⟩ := h b hb
  obtain ⟨c1, c2, c3, c4⟩ := h c hc
  have h1 := mul_bd (a := X a - X c) (b := X b - X c) (M := 15) (N := 15) (by omega) (by omega) (by omega) (by omega) (by omega) (by omega)
  have h2 := mul_bd (a := Y a - Y c) (b := Y b - Y c) (M := 15) (N := 15) (by omega) (by omega) (by omega) (by omega) (by omega) (by omega)
  unfold dt
  omega
def nx (n i : Nat) : Nat := if i + 1 < n then i + 1 else 0
def pv (n i : Nat) : Nat := if 0 < i then i - 1 else n - 1
theorem nx_lt {n i : Nat} (h : i < n) : nx n i < n := by unfold nx; split <;> omega
theorem pv_lt {n i : Nat} (h : i < n) : pv n i < n := by unfold pv; split <;> omega
def b2i (b : Bool) : Int := if b = true then 1 else 0
theorem i32_0 : (0 : Int32) = iI 0 := rfl
theorem i32_1 : (1 : Int32) = iI 1 := rfl
theorem b2i_0 (b : Bool) : (iI (b2i b) = iI 0) ↔ b = false := by cases b <;> simp [b2i] <;> decide
theorem b2i_1 (b : Bool) : (iI (b2i b) = iI 1) ↔ b = true := by cases b <;> simp [b2i] <;> decide
theorem b2i_n (b : Bool) : (¬ b = false) ↔ b = true := by cases b <;> simp
theorem b2i_t : b2i true = 1 := rfl
theorem b2i_f : b2i false = 0 := rfl
def anyF (p : Nat → Bool) : Nat → Nat → Bool
  | _, 0 => false
  | i, d + 1 => p i || anyF p (i + 1) d
theorem anyF_iff (p : Nat → Bool) : ∀ (d i : Nat), anyF p i d = true ↔ ∃ j, i ≤ j ∧ j < i + d ∧ p j = true
  | 0, i => by simp only [anyF, Bool.false_eq_true, false_iff]; rintro ⟨j, h1, h2, -⟩; omega
  | d + 1, i => by
    rw [anyF, Bool.or_eq_true, anyF_iff p d (i + 1)]
    constructor
    · rintro (h | ⟨j, h1, h2, h3⟩)
      · exact ⟨i, by omega, by omega, h⟩
      · exact ⟨j, by omega, by omega, h3⟩
    · rintro ⟨j, h1, h2, h3⟩
      by_cases hj : j = i
      · subst hj; exact Or.inl h3
      · exact Or.inr ⟨j, by omega, by omega, h3⟩
def sumF (f : Nat → Int) : Nat → Nat → Int
  | _, 0 => 0
  | i, d + 1 => f i + sumF f (i + 1) d
theorem sumF_bd {f : Nat → Int} {M : Int} (hM : 0 ≤ M) : ∀ (d i : Nat), (∀ j, i ≤ j → j < i + d → -M ≤ f j ∧ f j ≤ M) → -(M * d) ≤ sumF f i d ∧ sumF f i d ≤ M * d
  | 0, i, _ => by simp [sumF]
  | d + 1, i, h => by
    have h1 := sumF_bd hM d (i + 1) (fun j a b => h j (by omega) (by omega))
    have h2 := h i (by omega) (by omega)
    have e : M * ((d + 1 : Nat) : Int) = M * d + M := by rw [Int.natCast_add, Int.mul_add]; simp
    rw [sumF, e]
    omega
def btw (X Y : Nat → Int) (a b c : Nat) : Bool := decide (sd X Y a b c = 0) && decide (dt X Y c a b < 0)
def crs (X Y : Nat → Int) (a b c d : Nat) : Bool := decide (sd X Y a b c * sd X Y a b d < 0) && decide (sd X Y c d a * sd X Y c d b < 0)
def fld (X Y : Nat → Int) (n i : Nat) : Bool := decide (sd X Y (pv n i) (nx n i) i = 0) && decide (0 < dt X Y i (pv n i) (nx n i))
def tch (X Y : Nat → Int) (n i j : Nat) : Bool := if sd X Y i (nx n i) j = 0 ∧ sd X Y i (nx n i) (nx n j) = 0 then btw X Y i (nx n i) j || btw X Y i (nx n i) (nx n j) || btw X Y j (nx n j) i else decide (sd X Y i (nx n i) j * sd X Y i (nx n i) (nx n j) ≤ 0) && decide (sd X Y j (nx n j) i * sd X Y j (nx n j) (nx n i) ≤ 0)
theorem sp_bd {n : Nat} {X Y : Nat → Int} (h : Rg n X Y) {a b c a' b' c' : Nat} (ha : a < n) (hb : b < n) (hc : c < n) (ha' : a' < n) (hb' : b' < n) (hc' : c' < n) : -202500 ≤ sd X Y a b c * sd X Y a' b' c' ∧ sd X Y a b c * sd X Y a' b' c' ≤ 202500 := by
  have h1 := sd_bd h ha hb hc
  have h2 := sd_bd h ha' hb' hc'
  exact mul_bd (M := 450) (N := 450) h1.1 h1.2 h2.1 h2.2 (by omega) (by omega)
/-- the loop that does f at i, i + 1, .. -/
def itF {α : Type} (f : Nat → α → α) : Nat → Nat → α → α
  | _, 0, s => s
  | i, d + 1, s => itF f (i + 1) d (f i s)
def nst (X Y : Nat → Int) (a : Nat) (i s : Nat) : Nat := if btw X Y a s i = true then i else s
def ar (X Y : Nat → Int) (i j : Nat) : Int := X i * Y j - X j * Y i
theorem ar_bd {n : Nat} {X Y : Nat → Int} (h : Rg n X Y) {a b : Nat} (ha : a < n) (hb : b < n) : -225 ≤ ar X Y a b ∧ ar X Y a b ≤ 225 := by
  obtain ⟨a1, a2, a3, a4⟩ := h a ha
  obtain ⟨b1, b2, b3, b4⟩ := h b hb
  have h1 : 0 ≤ X a * Y b := Int.mul_nonneg a1 b3
  have h2 : 0 ≤ X b * Y a := Int.mul_nonneg b1 a3
  have h3 := mul_bd (a := X a) (b := Y b) (M := 15) (N := 15) (by omega) (by omega) (by omega) (by omega) (by omega) (by omega)
  have h4 := mul_bd (a := X b) (b := Y a) (M := 15) (N := 15) (by omega) (by omega) (by omega) (by omega) (by omega) (by omega)
  unfold ar
  omega
/-- the shoelace sum of the corners p .. q, closed -/
def arS (X Y : Nat → Int) (p q : Nat) (i : Nat) (s : Int) : Int := s + ar X Y i (if i < q then i + 1 else p)
theorem arS_bd {n : Nat} {X Y : Nat → Int} (h : Rg n X Y) {p q : Nat} (hp : p < n) (hq : q < n) : ∀ (d i : Nat) (s : Int), i + d = q + 1 → s - 225 * d ≤ itF (arS X Y p q) i d s ∧ itF (arS X Y p q) i d s ≤ s + 225 * d
  | 0, i, s, _ => by simp [itF]
  | d + 1, i, s, hi => by
    have h1 : (if i < q then i + 1 else p) < n := by split <;> omega
    have h2 := ar_bd h (show i < n by omega) h1
    have h3 := arS_bd h hp hq d (i + 1) (arS X Y p q i s) (by omega)
    rw [itF]
    have e : arS X Y p q i s = s + ar X Y i (if i < q then i + 1 else p) := rfl
    rw [e] at h3 ⊢
    push_cast
    omega
def areaP (X Y : Nat → Int) (p q : Nat) : Int := itF (arS X Y p q) p (q + 1 - p) 0
def area (X Y : Nat → Int) (n : Nat) : Int := areaP X Y 0 (n - 1)
theorem areaP_bd {n : Nat} {X Y : Nat → Int} (h : Rg n X Y) (hn : n ≤ 10) {p q : Nat} (hp : p < n) (hq : q < n) (hpq : p ≤ q) : -2250 ≤ areaP X Y p q ∧ areaP X Y p q ≤ 2250 := by
  have h1 := arS_bd h hp hq (q + 1 - p) p 0 (by omega)
  unfold areaP
  have : ((q + 1 - p : Nat) : Int) ≤ 10 := by omega
  omega
def gcdT (p q : Nat) : Nat → Nat
  | 0 => 1
  | d + 1 => if d + 1 ≤ 1 then 1 else if p % (d + 1) = 0 ∧ q % (d + 1) = 0 then d + 1 else gcdT p q d
