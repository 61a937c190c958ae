/-! Sight of the reference: the meets in their order. -/
def le2 (p q : Int × Int) : Prop := p.1 * q.2 ≤ q.1 * p.2
def srt : List (Int × Int) → Prop
  | [] => True
  | [_] => True
  | q :: p :: t => le2 p q ∧ srt (p :: t)
def pos2 (R : List (Int × Int)) : Prop := ∀ r, r ∈ R → 0 < r.2
theorem le2_tr {p q r : Int × Int} (hp : 0 < p.2) (hq : 0 < q.2) (hr : 0 < r.2) (h1 : le2 p q) (h2 : le2 q r) : le2 p r := by
  unfold le2 at *
  have a1 := Int.mul_le_mul_of_nonneg_right h1 (show 0 ≤ r.2 by omega)
  have a2 := Int.mul_le_mul_of_nonneg_right h2 (show 0 ≤ p.2 by omega)
  have e : q.2 * (p.1 * r.2) ≤ q.2 * (r.1 * p.2) := by
    have e1 : q.2 * (p.1 * r.2) = p.1 * q.2 * r.2 := by grind
    have e2 : q.2 * (r.1 * p.2) = r.1 * q.2 * p.2 := by grind
    have e3 : q.1 * p.2 * r.2 = q.1 * r.2 * p.2 := by grind
    omega
  exact Int.le_of_mul_le_mul_left e hq
theorem srt_head : ∀ (t : List (Int × Int)) (q : Int × Int), srt (q :: t) → pos2 (q :: t) → ∀ r, r ∈ t → le2 r q
  | [], q, _, _, r, hr => by simp at hr
  | p :: t, q, h, hp, r, hr => by
    have hp2 : pos2 (p :: t) := fun x hx => hp x (List.mem_cons_of_mem _ hx)
    rcases List.mem_cons.mp hr with rfl | hr2
    · exact h.1
    · exact le2_tr (hp r (List.mem_cons_of_mem _ hr)) (hp p (List.mem_cons_of_mem _ (List.mem_cons_self ..))) (hp q (List.mem_cons_self ..)) (srt_head t p h.2 hp2 r hr2) h.1
theorem mem_ins (a b : Int) (r : Int × Int) : ∀ R : List (Int × Int), r ∈ insR a b R ↔ r = (a, b) ∨ r ∈ R
  | [] => by rw [insR]; simp
  | p :: t => by
    rw [insR]
    split
    · rw [List.mem_cons, mem_ins a b r t, List.mem_cons]
      constructor
      · rintro (h | h | h)
        · exact Or.inr (Or.inl h)
        · exact Or.inl h
        · exact Or.inr (Or.inr h)
      · rintro (h | h | h)
        · exact Or.inr (Or.inl h)
        · exact Or.inl h
        · exact Or.inr (Or.inr h)
    · rw [List.mem_cons]
theorem srt_ins {a b : Int} : ∀ R : List (Int × Int), srt R → srt (insR a b R)
  | [], _ => by rw [insR]; trivial
  | [p], _ => by
    rw [insR]
    split
    · next h =>
      rw [insR]
      exact ⟨by unfold le2; simp only; omega, trivial⟩
    · next h => exact ⟨by unfold le2; simp only; omega, trivial⟩
  | p :: q :: t, h => by
    rw [insR]
    split
    · next c =>
      have w := srt_ins (a := a) (b := b) (q :: t) h.2
      rw [insR] at w ⊢
      split at w
      · next c2 => rw [if_pos c2]; exact ⟨h.1, w⟩
      · next c2 => rw [if_neg c2]; exact ⟨by unfold le2; simp only; omega, w⟩
    · next c => exact ⟨by unfold le2; simp only; omega, h⟩
/-- two neighbours in the order, the one below, the other above -/
theorem gap {X Y : Nat → Int} {n c o : Nat} (D : Int × Int → Prop) (hD : ∀ p q : Int × Int, 0 < p.2 → 0 < q.2 → le2 p q → D q → D p) : ∀ R : List (Int × Int), srt R → pos2 R → okR X Y n c o R = true → (∃ r, r ∈ R ∧ D r) → (∃ r, r ∈ R ∧ ¬ D r) → ∃ p q, p ∈ R ∧ q ∈ R ∧ D p ∧ ¬ D q ∧ okP X Y n c o p q = true ∧ ∀ r, r ∈ R → (D r → le2 r p) ∧ (¬ D r → le2 q r)
  | [], _, _, _, ⟨r, hr, _⟩, _ => by simp at hr
  | [x], _, _, _, ⟨r, hr, h1⟩, ⟨s, hs, h2⟩ => by
    simp only [List.mem_singleton] at hr hs
    subst hr hs
    exact absurd h1 h2
  | q :: p :: t, hs, hp, ho, h1, h2 => by
    have hq0 := hp q (List.mem_cons_self ..)
    have hp0 := hp p (List.mem_cons_of_mem _ (List.mem_cons_self ..))
    have hp2 : pos2 (p :: t) := fun x hx => hp x (List.mem_cons_of_mem _ hx)
    have hd := srt_head (p :: t) q hs hp
    rw [okR, Bool.and_eq_true] at ho
    by_cases dq : D q
    · exfalso
      obtain ⟨s, s1, s2⟩ := h2
      rcases List.mem_cons.mp s1 with rfl | s3
      · exact s2 dq
      · exact s2 (hD s q (hp2 s s3) hq0 (hd s s3) dq)
    · by_cases dp : D p
      · refine ⟨p, q, List.mem_cons_of_mem _ (List.mem_cons_self ..), List.mem_cons_self .., dp, dq, ho.1, fun r hr => ?_⟩
        have allp : ∀ x, x ∈ t → le2 x p := srt_head t p hs.2 hp2
        rcases List.mem_cons.mp hr with rfl | hr2
        · exact ⟨fun z => absurd z dq, fun _ => Int.le_refl _⟩
        · rcases List.mem_cons.mp hr2 with rfl | hr3
          · exact ⟨fun _ => Int.le_refl _, fun z => absurd dp z⟩
          · exact ⟨fun _ => allp r hr3, fun z => absurd (hD r p (hp2 r hr2) hp0 (allp r hr3) dp) z⟩
      · have h1' : ∃ r, r ∈ p :: t ∧ D r := by
          obtain ⟨r, r1, r2⟩ := h1
          rcases List.mem_cons.mp r1 with rfl | r3
          · exact absurd r2 dq
          · exact ⟨r, r3, r2⟩
        obtain ⟨p', q', m1, m2, m3, m4, m5, m6⟩ := gap D hD (p :: t) hs.2 hp2 ho.2 h1' ⟨p, List.mem_cons_self .., dp⟩
        refine ⟨p', q', List.mem_cons_of_mem _ m1, List.mem_cons_of_mem _ m2, m3, m4, m5, fun r hr => ?_⟩
        rcases List.mem_cons.mp hr with rfl | hr2
        · exact ⟨fun z => absurd z dq, fun _ => hd q' m2⟩
        · exact m6 r hr2
/-- what a fence gives to the meets -/
def MtK (X Y : Nat → Int) (c o k k' : Nat) (r : Int × Int) : Prop := (0 ≤ r.1 ∧ r.1 ≤ r.2) ∧ ((sd X Y k k' c = sd X Y k k' o ∧ sd X Y k k' c = 0 ∧ (r = (prt X Y c o k, lng X Y c o) ∨ r = (prt X Y c o k', lng X Y c o))) ∨ (sd X Y k k' c ≠ sd X Y k k' o ∧ sgn (sd X Y c o k) * sgn (sd X Y c o k') ≤ 0 ∧ r = (if sd X Y k k' c < sd X Y k k' o then -sd X Y k k' c else sd X Y k k' c, if sd X Y k k' c < sd X Y k k' o then sd X Y k k' o - sd X Y k k' c else sd X Y k k' c - sd X Y k k' o)))
theorem mem_ad {a b : Int} {r : Int × Int} {R : List (Int × Int)} : r ∈ adL a b R ↔ (r = (a, b) ∧ 0 ≤ r.1 ∧ r.1 ≤ r.2) ∨ r ∈ R := by
  unfold adL
  split
  · next h =>
    constructor
    · exact Or.inr
    · rintro (⟨rfl, h1, h2⟩ | h2)
      · exfalso; simp only at h1 h2; omega
      · exact h2
  · next h =>
    rw [mem_ins]
    constructor
    · rintro (rfl | h1)
      · exact Or.inl ⟨rfl, by simp only; omega, by simp only; omega⟩
      · exact Or.inr h1
    · rintro (h1 | h1)
      · exact Or.inl h1.1
      · exact Or.inr h1
theorem srt_ad {a b : Int} {R : List (Int × Int)} (h : srt R) : srt (adL a b R) := by
  unfold adL
  split
  · exact h
  · exact srt_ins R h
theorem mem_lay {X Y : Nat → Int} {c o k k' : Nat} {r : Int × Int} {R : List (Int × Int)} : r ∈ layL X Y c o k k' R ↔ MtK X Y c o k k' r ∨ r ∈ R := by
  unfold layL MtK
  by_cases h1 : sd X Y k k' c = sd X Y k k' o
  · rw [if_pos h1]
    by_cases h2 : sd X Y k k' c = 0
    · rw [if_pos h2, mem_ad, mem_ad]
      constructor
      · rintro (⟨a, b⟩ | ⟨a, b⟩ | a)
        · exact Or.inl ⟨b, Or.inl ⟨h1, h2, Or.inr a⟩⟩
        · exact Or.inl ⟨b, Or.inl ⟨h1, h2, Or.inl a⟩⟩
        · exact Or.inr a
      · rintro (⟨a, ⟨_, _, b | b⟩ | ⟨b, _⟩⟩ | a)
        · exact Or.inr (Or.inl ⟨b, a⟩)
        · exact Or.inl ⟨b, a⟩
        · exact absurd h1 b
        · exact Or.inr (Or.inr a)
    · rw [if_neg h2]
      constructor
      · exact Or.inr
      · rintro (⟨a, ⟨_, b, _⟩ | ⟨b, _⟩⟩ | a)
        · exact absurd b h2
        · exact absurd h1 b
        · exact a
  · rw [if_neg h1]
    by_cases h2 : sgn (sd X Y c o k) * sgn (sd X Y c o k') ≤ 0
    · rw [if_pos h2, mem_ad]
      constructor
      · rintro (⟨a, b⟩ | a)
        · exact Or.inl ⟨b, Or.inr ⟨h1, h2, a⟩⟩
        · exact Or.inr a
      · rintro (⟨a, ⟨b, _⟩ | ⟨_, _, b⟩⟩ | a)
        · exact absurd b h1
        · exact Or.inl ⟨b, a⟩
        · exact Or.inr a
    · rw [if_neg h2]
      constructor
      · exact Or.inr
      · rintro (⟨a, ⟨b, _⟩ | ⟨_, b, _⟩⟩ | a)
        · exact absurd b h1
        · exact absurd b h2
        · exact a
theorem srt_lay {X Y : Nat → Int} {c o k k' : Nat} {R : List (Int × Int)} (h : srt R) : srt (layL X Y c o k k' R) := by
  unfold layL
  (repeat' split) <;> first | exact h | exact srt_ad h | exact srt_ad (srt_ad h)
theorem mem_mt_aux {X Y : Nat → Int} {n c o : Nat} {r : Int × Int} : ∀ (d i : Nat) (R : List (Int × Int)), srt R → srt (itF (fun k R => layL X Y c o k (nx n k) R) i d R) ∧ (r ∈ itF (fun k R => layL X Y c o k (nx n k) R) i d R ↔ (∃ k, i ≤ k ∧ k < i + d ∧ MtK X Y c o k (nx n k) r) ∨ r ∈ R)
  | 0, i, R, h => by
    rw [itF]
    refine ⟨h, ?_⟩
    constructor
    · exact Or.inr
    · rintro (⟨k, h1, h2, _⟩ | h1)
      · omega
      · exact h1
  | d + 1, i, R, h => by
    rw [itF]
    obtain ⟨w1, w2⟩ := mem_mt_aux d (i + 1) (layL X Y c o i (nx n i) R) (srt_lay h)
    refine ⟨w1, ?_⟩
    rw [w2, mem_lay]
    constructor
    · rintro (⟨k, h1, h2, h3⟩ | h1 | h1)
      · exact Or.inl ⟨k, by omega, by omega, h3⟩
      · exact Or.inl ⟨i, by omega, by omega, h1⟩
      · exact Or.inr h1
    · rintro (⟨k, h1, h2, h3⟩ | h1)
      · by_cases e : k = i
        · subst e; exact Or.inr (Or.inl h3)
        · exact Or.inl ⟨k, by omega, by omega, h3⟩
      · exact Or.inr (Or.inr h1)
theorem srt_0 : srt [((1 : Int), (1 : Int)), (0, 1)] := ⟨by unfold le2; decide, trivial⟩
theorem mt_srt (X Y : Nat → Int) (n c o : Nat) : srt (mtR X Y n c o) := (mem_mt_aux (r := (0, 0)) n 0 _ srt_0).1
theorem mem_mt {X Y : Nat → Int} {n c o : Nat} {r : Int × Int} : r ∈ mtR X Y n c o ↔ (∃ k, k < n ∧ MtK X Y c o k (nx n k) r) ∨ r = (1, 1) ∨ r = (0, 1) := by
  unfold mtR
  rw [(mem_mt_aux n 0 _ srt_0).2]
  constructor
  · rintro (⟨k, h1, h2, h3⟩ | h1)
    · exact Or.inl ⟨k, by omega, h3⟩
    · right; simpa using h1
  · rintro (⟨k, h1, h3⟩ | h1)
    · exact Or.inl ⟨k, by omega, by omega, h3⟩
    · right; simpa using h1
