/-! families of pairs -/
abbrev Rel : Type := Nat → Nat → Prop
def Eqv (E : Rel) : Prop := (∀ x, E x x) ∧ (∀ x y, E x y → E y x) ∧ ∀ x y z, E x y → E y z → E x z
def FE (P : Pj) : Rel := fun x y => P.2.2.2 x = P.2.2.2 y
theorem FE.eqv (P : Pj) : Eqv (FE P) := ⟨fun _ => rfl, fun _ _ h => h.symm, fun _ _ _ h1 h2 => h1.trans h2⟩
def pjL (P : Pj) (k : Nat) : Nat := (P.2.1 k).toNatClampNeg
def pjR (P : Pj) (k : Nat) : Nat := (P.2.2.1 k).toNatClampNeg
def InE (P : Pj) (E : Rel) : Prop := ∀ k, k < P.1 → E (pjL P k) (pjR P k)
/-- what is known of the pairs -/
def PIv (N : Nat) (P : Pj) : Prop := (∃ m : Nat → Nat, (∀ i, i < P.1 → m i < 60 ∧ P.2.2.2 (m i) ≠ nI (m i)) ∧ ∀ i j, i < P.1 → j < P.1 → m i = m j → i = j) ∧ (∀ t, t < 60 → ∃ r, r < 60 ∧ P.2.2.2 t = nI r ∧ P.2.2.2 r = nI r) ∧
  (∀ k, k < P.1 → ∃ x y, x < N ∧ y < N ∧ P.2.1 k = nI x ∧ P.2.2.1 k = nI y ∧ FE P x y) ∧ ∀ E : Rel, Eqv E → InE P E → ∀ x y, x < 60 → y < 60 → FE P x y → E x y
theorem PIv.room {N : Nat} {P : Pj} (H : PIv N P) {x y : Nat} (hx : x < 60) (hy : y < 60) (hne : ¬ P.2.2.2 x = P.2.2.2 y) : P.1 + 2 ≤ 60 := by
  obtain ⟨⟨m, m1, m2⟩, r1, _, _⟩ := H
  obtain ⟨rx, a1, a2, a3⟩ := r1 x hx
  obtain ⟨ry, b1, b2, b3⟩ := r1 y hy
  have hxy : rx ≠ ry := fun e => hne (by rw [a2, b2, e])
  refine php 60 (P.1 + 2) (fun i => if i < P.1 then m i else if i = P.1 then rx else ry) (fun i hi => ?_) (fun i j hi hj e => ?_)
  · split
    · exact (m1 i (by assumption)).1
    · split
      · exact a1
      · exact b1
  · by_cases i1 : i < P.1
    · rw [if_pos i1] at e
      by_cases j1 : j < P.1
      · rw [if_pos j1] at e; exact m2 i j i1 j1 e
      · rw [if_neg j1] at e
        by_cases j2 : j = P.1
        · rw [if_pos j2] at e; exact absurd (by rw [e]; exact a3) (m1 i i1).2
        · rw [if_neg j2] at e; exact absurd (by rw [e]; exact b3) (m1 i i1).2
    · rw [if_neg i1] at e
      by_cases i2 : i = P.1
      · rw [if_pos i2] at e
        by_cases j1 : j < P.1
        · rw [if_pos j1] at e; exact absurd (by rw [← e]; exact a3) (m1 j j1).2
        · rw [if_neg j1] at e
          by_cases j2 : j = P.1
          · omega
          · rw [if_neg j2] at e; exact absurd e hxy
      · rw [if_neg i2] at e
        by_cases j1 : j < P.1
        · rw [if_pos j1] at e; exact absurd (by rw [← e]; exact b3) (m1 j j1).2
        · rw [if_neg j1] at e
          by_cases j2 : j = P.1
          · rw [if_pos j2] at e; exact absurd e.symm hxy
          · omega
theorem pJn_y {P : Pj} {x y : Nat} (h : P.2.2.2 x = P.2.2.2 y) : pJn P x y = P := if_pos h
theorem pJn_n {P : Pj} {x y : Nat} (h : ¬ P.2.2.2 x = P.2.2.2 y) : pJn P x y = (P.1 + 1, upd P.2.1 P.1 (nI x), upd P.2.2.1 P.1 (nI y), fun k => @ite _ (k < 60 ∧ P.2.2.2 k = P.2.2.2 y) (Classical.propDecidable _) (P.2.2.2 x) (P.2.2.2 k)) := if_neg h
theorem PIv.join {N : Nat} {P : Pj} (hN : N ≤ 60) (H : PIv N P) {x y : Nat} (hx : x < N) (hy : y < N) : PIv N (pJn P x y) ∧ (∀ a b, a < 60 → b < 60 → FE P a b → FE (pJn P x y) a b) ∧ FE (pJn P x y) x y ∧ ∀ E : Rel, InE P E → E x y → InE (pJn P x y) E := by
  by_cases hne : P.2.2.2 x = P.2.2.2 y
  · rw [pJn_y hne]
    exact ⟨H, fun _ _ _ _ h => h, hne, fun E h _ => h⟩
  · have H0 := H
    obtain ⟨⟨m, m1, m2⟩, r1, b1, c1⟩ := H
    obtain ⟨rx, x1, x2, x3⟩ := r1 x (by omega)
    obtain ⟨ry, y1, y2, y3⟩ := r1 y (by omega)
    have hxy : rx ≠ ry := fun e => hne (by rw [x2, y2, e])
    rw [pJn_n hne]
    have fa : ∀ k, k < 60 → P.2.2.2 k = P.2.2.2 y → (@ite _ (k < 60 ∧ P.2.2.2 k = P.2.2.2 y) (Classical.propDecidable _) (P.2.2.2 x) (P.2.2.2 k)) = P.2.2.2 x := fun k hk e => if_pos ⟨hk, e⟩
    have fb : ∀ k, ¬ P.2.2.2 k = P.2.2.2 y → (@ite _ (k < 60 ∧ P.2.2.2 k = P.2.2.2 y) (Classical.propDecidable _) (P.2.2.2 x) (P.2.2.2 k)) = P.2.2.2 k := fun k e => if_neg (fun z => e z.2)
    have mono : ∀ a b, a < 60 → b < 60 → FE P a b → FE (P.1 + 1, upd P.2.1 P.1 (nI x), upd P.2.2.1 P.1 (nI y), fun k => @ite _ (k < 60 ∧ P.2.2.2 k = P.2.2.2 y) (Classical.propDecidable _) (P.2.2.2 x) (P.2.2.2 k)) a b := fun a b ha hb h => by
      show (@ite _ (a < 60 ∧ P.2.2.2 a = P.2.2.2 y) (Classical.propDecidable _) (P.2.2.2 x) (P.2.2.2 a)) = (@ite _ (b < 60 ∧ P.2.2.2 b = P.2.2.2 y) (Classical.propDecidable _) (P.2.2.2 x) (P.2.2.2 b))
      by_cases e : P.2.2.2 a = P.2.2.2 y
      · rw [fa a ha e, fa b hb (h ▸ e)]
      · rw [fb a e, fb b (fun z => e (h.trans z))]
        exact h
    have fxy : FE (P.1 + 1, upd P.2.1 P.1 (nI x), upd P.2.2.1 P.1 (nI y), fun k => @ite _ (k < 60 ∧ P.2.2.2 k = P.2.2.2 y) (Classical.propDecidable _) (P.2.2.2 x) (P.2.2.2 k)) x y := by
      show (@ite _ (x < 60 ∧ P.2.2.2 x = P.2.2.2 y) (Classical.propDecidable _) (P.2.2.2 x) (P.2.2.2 x)) = (@ite _ (y < 60 ∧ P.2.2.2 y = P.2.2.2 y) (Classical.propDecidable _) (P.2.2.2 x) (P.2.2.2 y))
      rw [fb x hne, fa y (by omega) rfl]
    refine ⟨⟨⟨fun i => if i = P.1 then ry else m i, fun i hi => ?_, fun i j hi hj e => ?_⟩, fun t ht => ?_, fun k hk => ?_, fun E hE hI a b ha hb h => ?_⟩, mono, fxy, fun E hI hxy' k hk => ?_⟩
    · dsimp only at hi ⊢
      by_cases z : i = P.1
      · rw [if_pos z]
        refine ⟨y1, ?_⟩
        rw [fa ry y1 (by rw [y3, y2]), x2]
        exact fun e => hxy (nI_inj8 (by omega) (by omega) e)
      · rw [if_neg z]
        obtain ⟨q1, q2⟩ := m1 i (by omega)
        refine ⟨q1, ?_⟩
        by_cases w : P.2.2.2 (m i) = P.2.2.2 y
        · rw [fa _ q1 w, x2]
          intro e
          have := nI_inj8 (by omega) (by omega) e
          rw [← this] at q2
          exact q2 x3
        · rw [fb _ w]; exact q2
    · dsimp only at hi hj e
      by_cases z : i = P.1
      · rw [if_pos z] at e
        by_cases w : j = P.1
        · omega
        · rw [if_neg w] at e
          exact absurd (by rw [← e]; exact y3) (m1 j (by omega)).2
      · rw [if_neg z] at e
        by_cases w : j = P.1
        · rw [if_pos w] at e
          exact absurd (by rw [e]; exact y3) (m1 i (by omega)).2
        · rw [if_neg w] at e
          exact m2 i j (by omega) (by omega) e
    · dsimp only
      by_cases w : P.2.2.2 t = P.2.2.2 y
      · refine ⟨rx, x1, by rw [fa t ht w]; exact x2, ?_⟩
        rw [fb rx (by rw [x3, ← x2]; exact hne)]
        exact x3
      · obtain ⟨r, a1, a2, a3⟩ := r1 t ht
        refine ⟨r, a1, by rw [fb t w]; exact a2, ?_⟩
        rw [fb r (by rw [a3, ← a2]; exact w)]
        exact a3
    · dsimp only at hk ⊢
      by_cases z : k = P.1
      · subst z
        exact ⟨x, y, hx, hy, pk_us, pk_us, fxy⟩
      · obtain ⟨a, b, h1, h2, h3, h4, h5⟩ := b1 k (by omega)
        exact ⟨a, b, h1, h2, by rw [pk_un z]; exact h3, by rw [pk_un z]; exact h4, mono a b (by omega) (by omega) h5⟩
    · have hI0 : InE P E := fun k hk => by
        have := hI k (by show k < P.1 + 1; omega)
        unfold pjL pjR at *
        dsimp only at this
        rw [pk_un (by omega), pk_un (by omega)] at this
        exact this
      have exy : E x y := by
        have := hI P.1 (by show P.1 < P.1 + 1; omega)
        unfold pjL pjR at this
        dsimp only at this
        rw [pk_us, pk_us, cl x (by omega), cl y (by omega)] at this
        exact this
      have hc := c1 E hE hI0
      have h' : (@ite _ (a < 60 ∧ P.2.2.2 a = P.2.2.2 y) (Classical.propDecidable _) (P.2.2.2 x) (P.2.2.2 a)) = (@ite _ (b < 60 ∧ P.2.2.2 b = P.2.2.2 y) (Classical.propDecidable _) (P.2.2.2 x) (P.2.2.2 b)) := h
      by_cases wa : P.2.2.2 a = P.2.2.2 y
      · by_cases wb : P.2.2.2 b = P.2.2.2 y
        · exact hc a b ha hb (wa.trans wb.symm)
        · rw [fa a ha wa, fb b wb] at h'
          exact hE.2.2 a y b (hc a y ha (by omega) wa) (hE.2.2 y x b (hE.2.1 x y exy) (hc x b (by omega) hb h'))
      · by_cases wb : P.2.2.2 b = P.2.2.2 y
        · rw [fb a wa, fa b hb wb] at h'
          exact hE.2.2 a x b (hc a x ha (by omega) h') (hE.2.2 x y b exy (hE.2.1 b y (hc b y hb (by omega) wb)))
        · rw [fb a wa, fb b wb] at h'
          exact hc a b ha hb h'
    · have hk' : k < P.1 + 1 := hk
      unfold pjL pjR
      dsimp only
      by_cases z : k = P.1
      · subst z
        rw [pk_us, pk_us, cl x (by omega), cl y (by omega)]
        exact hxy'
      · rw [pk_un z, pk_un z]
        exact hI k (by omega)
