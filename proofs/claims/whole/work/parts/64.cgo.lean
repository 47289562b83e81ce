/-! going back and again: one road only -/
def putM (s : Mem) (j e x : Nat) : Mem := (s.1, fun q => if q = 10 then upd (s.2 10) x (s.2 j (7 * e)) else if q = 11 then (fun i => if 6 * x ≤ i ∧ i < 6 * x + 6 then s.2 j (7 * e + 1 + (i - 6 * x)) else s.2 11 i) else s.2 q)
theorem PutE.eq {s t : Mem} {j e x : Nat} (H : PutE s j e x 6 t) : t = putM s j e x := by
  obtain ⟨h1, h2, h3, h4, h5⟩ := H
  refine Prod.ext h1 (funext fun q => ?_)
  show t.2 q = if q = 10 then _ else if q = 11 then _ else _
  by_cases a : q = 10
  · rw [if_pos a, a]; exact h3
  · rw [if_neg a]
    by_cases b : q = 11
    · rw [if_pos b, b]
      funext i
      by_cases c : 6 * x ≤ i ∧ i < 6 * x + 6
      · rw [if_pos c]
        have := h5 (i - 6 * x) (by omega)
        rw [show 6 * x + (i - 6 * x) = i by omega] at this
        exact this
      · rw [if_neg c]; exact h4 i (by omega)
    · rw [if_neg b]; exact h2 q a b
theorem putM_ok (s : Mem) (j e x : Nat) : PutE s j e x 6 (putM s j e x) := by
  refine ⟨rfl, fun q a b => ?_, rfl, fun i hi => ?_, fun k hk => ?_⟩
  · show (if q = 10 then _ else if q = 11 then _ else _) = _
    rw [if_neg a, if_neg b]
  · show (if 6 * x ≤ i ∧ i < 6 * x + 6 then _ else _) = _
    rw [if_neg (by omega)]
  · show (if 6 * x ≤ 6 * x + k ∧ 6 * x + k < 6 * x + 6 then _ else _) = _
    rw [if_pos (by omega), show 6 * x + k - 6 * x = k by omega]
def ntC (s : Mem) (o f k w : Nat) : Prop := w < k ∧ seesW s o f w ∧ wc s w < 40
noncomputable def ntM (s : Mem) (o f : Nat) (a : Int32) (k : Nat) : Mem := (s.1, fun q => if q = 30 then (fun w => @ite _ (ntC s o f k w) (Classical.propDecidable _) (nI (wc s w + 1)) (s.2 30 w)) else if q = 31 then (fun i => @ite _ (ntC s o f k (i / 120) ∧ i / 3 = 40 * (i / 120) + wc s (i / 120)) (Classical.propDecidable _) (if i % 3 = 0 then nI o else if i % 3 = 1 then a else s.2 10 (8 * o + f)) (s.2 31 i)) else s.2 q)
theorem NoteE.eq {s t : Mem} {o f k : Nat} {a : Int32} (H : NoteE s o f a k t) : t = ntM s o f a k := by
  obtain ⟨h1, h2, h3, h4, h5⟩ := H
  refine Prod.ext h1 (funext fun q => ?_)
  show t.2 q = if q = 30 then _ else if q = 31 then _ else _
  by_cases b : q = 30
  · rw [if_pos b, b]
    funext w
    by_cases c : ntC s o f k w
    · rw [if_pos c]; exact (h3 w c.1 c.2.1 c.2.2).1
    · rw [if_neg c]
      exact h4 w (by rcases Nat.lt_or_ge w k with z | z; exact Or.inr (fun y => c ⟨z, y.1, y.2⟩); exact Or.inl z)
  · rw [if_neg b]
    by_cases c : q = 31
    · rw [if_pos c, c]
      funext i
      by_cases d : ntC s o f k (i / 120) ∧ i / 3 = 40 * (i / 120) + wc s (i / 120)
      · rw [if_pos d]
        obtain ⟨_, y1, y2, y3⟩ := h3 _ d.1.1 d.1.2.1 d.1.2.2
        rw [← d.2] at y1 y2 y3
        by_cases m0 : i % 3 = 0
        · rw [if_pos m0]; rw [show 3 * (i / 3) = i by omega] at y1; exact y1
        · rw [if_neg m0]
          by_cases m1 : i % 3 = 1
          · rw [if_pos m1]; rw [show 3 * (i / 3) + 1 = i by omega] at y2; exact y2
          · rw [if_neg m1]; rw [show 3 * (i / 3) + 2 = i by omega] at y3; exact y3
      · rw [if_neg d]
        refine h5 i (fun w z1 z2 z3 z4 => d ?_)
        have e : i / 120 = w := by omega
        rw [e]
        exact ⟨⟨z1, z2, z3⟩, by omega⟩
    · rw [if_neg c]; exact h2 q b c
theorem ntM_ok (s : Mem) (o f : Nat) (a : Int32) (k : Nat) : NoteE s o f a k (ntM s o f a k) := by
  have e31 : ∀ i, (ntM s o f a k).2 31 i = @ite _ (ntC s o f k (i / 120) ∧ i / 3 = 40 * (i / 120) + wc s (i / 120)) (Classical.propDecidable _) (if i % 3 = 0 then nI o else if i % 3 = 1 then a else s.2 10 (8 * o + f)) (s.2 31 i) := fun i => rfl
  have e30 : ∀ w, (ntM s o f a k).2 30 w = @ite _ (ntC s o f k w) (Classical.propDecidable _) (nI (wc s w + 1)) (s.2 30 w) := fun w => rfl
  refine ⟨rfl, fun q b c => ?_, fun w h1 h2 h3 => ?_, fun w hw => ?_, fun i hi => ?_⟩
  · show (if q = 30 then _ else if q = 31 then _ else _) = _
    rw [if_neg b, if_neg c]
  · have hc : ∀ r, r < 3 → ntC s o f k ((3 * (40 * w + wc s w) + r) / 120) ∧ (3 * (40 * w + wc s w) + r) / 3 = 40 * ((3 * (40 * w + wc s w) + r) / 120) + wc s ((3 * (40 * w + wc s w) + r) / 120) := fun r hr => by
      have e : (3 * (40 * w + wc s w) + r) / 120 = w := by omega
      rw [e]
      exact ⟨⟨h1, h2, h3⟩, by omega⟩
    refine ⟨by rw [e30, if_pos ⟨h1, h2, h3⟩], ?_, ?_, ?_⟩
    · have := hc 0 (by omega)
      rw [Nat.add_zero] at this
      rw [e31, if_pos this, if_pos (by omega)]
    · rw [e31, if_pos (hc 1 (by omega)), if_neg (by omega), if_pos (by omega)]
    · rw [e31, if_pos (hc 2 (by omega)), if_neg (by omega), if_neg (by omega)]
  · rw [e30, if_neg (fun z => by rcases hw with y | y; (have := z.1; omega); exact y z.2)]
  · rw [e31, if_neg (fun z => hi _ z.1.1 z.1.2.1 z.1.2.2 (by have := z.2; omega))]
noncomputable def goM (s : Mem) (j e o f : Nat) : Mem := ntM (putM s j e (8 * o + f)) o f (s.2 10 (8 * o + f)) (nW s)
theorem GoE.eq {s t : Mem} {j e o f : Nat} (ivs : IvS s) (ivo : IvO s) (ho : o < nO s) (hf : f < nf s (sh s o)) (h17 : s.2 17 e = nI (8 * o + f)) (H : GoE s j e t) : t = goM s j e o f := by
  obtain ⟨o', f', t1, h1, h2, h3, h4, h5⟩ := H
  have n8 := (ivs.2.2.1 _ (ivo.2.2 o ho).2).2
  have n8' := (ivs.2.2.1 _ (ivo.2.2 o' h1).2).2
  have n60 := ivo.2.1
  have e1 : 8 * o' + f' = 8 * o + f := nI_inj8 (by omega) (by omega) (by rw [← h3, h17])
  obtain rfl : o' = o := by omega
  obtain rfl : f' = f := by omega
  rw [h5.eq, h4.eq]
  rfl
/-- the same but for how many edits there are -/
def Q16 (s t : Mem) : Prop := t.2 = s.2 ∧ ∀ q, q ≠ 16 → t.1 q = s.1 q
theorem Q16.co {s t : Mem} (h : Q16 s t) : CoB s t := ⟨fun q hq => h.2 q (by unfold coF at hq; simp only [Bool.or_eq_true, beq_iff_eq] at hq; omega), fun q _ => by rw [h.1]⟩
theorem goM_q {s t : Mem} (h : Q16 s t) (j e o f : Nat) : Q16 (goM s j e o f) (goM t j e o f) := by
  obtain ⟨h1, h2⟩ := h
  have e1 : (putM t j e (8 * o + f)).2 = (putM s j e (8 * o + f)).2 := by unfold putM; rw [h1]
  have eW : nW t = nW s := by unfold nW; rw [h2 25 (by omega)]
  have es : seesW (putM t j e (8 * o + f)) = seesW (putM s j e (8 * o + f)) := by funext a b c; unfold seesW isOf sh; rw [e1]
  have ec : wc (putM t j e (8 * o + f)) = wc (putM s j e (8 * o + f)) := by funext a; unfold wc; rw [e1]
  have en : ntC (putM t j e (8 * o + f)) = ntC (putM s j e (8 * o + f)) := by funext a b c d; unfold ntC; rw [es, ec]
  refine ⟨?_, fun q hq => h2 q hq⟩
  unfold goM ntM
  dsimp only
  rw [en, ec, e1, eW, h1]
/-- what stays when a row is put and noted -/
theorem goM_1 (s : Mem) (j e o f : Nat) : (goM s j e o f).1 = s.1 := rfl
theorem goM_2 (s : Mem) (j e o f : Nat) {q : Nat} (h1 : q ≠ 10) (h2 : q ≠ 11) (h3 : q ≠ 30) (h4 : q ≠ 31) : (goM s j e o f).2 q = s.2 q := by
  show (if q = 30 then _ else if q = 31 then _ else (putM s j e (8 * o + f)).2 q) = _
  rw [if_neg h3, if_neg h4]
  show (if q = 10 then _ else if q = 11 then _ else _) = _
  rw [if_neg h1, if_neg h2]
/-- what a row of an edit must be -/
def RwOK (s : Mem) (o f : Nat) (v : Int32) (P : Nat → Int32) : Prop := (s.2 3 (8 * sh s o + f) = 1 → v = MISS ∨ ∃ t, t < nO s ∧ v = nI t) ∧ (s.2 3 (8 * sh s o + f) = 2 → ∃ n, n ≤ 6 ∧ v = nI n ∧ ∀ i, i < n → ∃ t, t < nO s ∧ P i = nI t)
def EdOK (s : Mem) (e : Nat) : Prop := ∃ o f, o < nO s ∧ f < nf s (sh s o) ∧ s.2 3 (8 * sh s o + f) ≠ 3 ∧ s.2 17 e = nI (8 * o + f) ∧ RwOK s o f (s.2 18 (7 * e)) (fun i => s.2 18 (7 * e + 1 + i)) ∧ RwOK s o f (s.2 19 (7 * e)) (fun i => s.2 19 (7 * e + 1 + i))
def Jv (s : Mem) : Prop := Sm s ∧ IvS s ∧ IvO s ∧ IvW s ∧ IvF s ∧ IvV s
theorem Jv.go {s : Mem} {j e o f : Nat} (J : Jv s) (ho : o < nO s) (hf : f < nf s (sh s o)) (hr : RwOK s o f (s.2 j (7 * e)) (fun i => s.2 j (7 * e + 1 + i))) : Jv (goM s j e o f) := by
  obtain ⟨hm, ivs, ivo, ivw, ivf, ivv⟩ := J
  have e2 := fun q h1 h2 h3 h4 => goM_2 s j e o f (q := q) h1 h2 h3 h4
  have e10 : (goM s j e o f).2 10 = upd (s.2 10) (8 * o + f) (s.2 j (7 * e)) := rfl
  have e11 : ∀ i, (goM s j e o f).2 11 i = if 6 * (8 * o + f) ≤ i ∧ i < 6 * (8 * o + f) + 6 then s.2 j (7 * e + 1 + (i - 6 * (8 * o + f))) else s.2 11 i := fun i => rfl
  have esh : sh (goM s j e o f) = sh s := by funext x; unfold sh; rw [e2 9 (by omega) (by omega) (by omega) (by omega)]
  have enf : nf (goM s j e o f) = nf s := by funext x; unfold nf; rw [e2 2 (by omega) (by omega) (by omega) (by omega)]
  have enO : nO (goM s j e o f) = nO s := rfl
  refine ⟨hm, ?_, ?_, ?_, ?_, ?_⟩
  · unfold IvS
    rw [enf, e2 2 (by omega) (by omega) (by omega) (by omega), e2 1 (by omega) (by omega) (by omega) (by omega)]
    exact ivs
  · unfold IvO
    rw [esh, e2 9 (by omega) (by omega) (by omega) (by omega)]
    exact ivo
  · refine ⟨ivw.1, ivw.2.1, fun w hw => ?_⟩
    obtain ⟨a, b, c, d⟩ := ivw.2.2 w hw
    rw [e2 26 (by omega) (by omega) (by omega) (by omega), e2 27 (by omega) (by omega) (by omega) (by omega)]
    refine ⟨a, b, ?_⟩
    have e30 : (goM s j e o f).2 30 w = @ite _ (ntC (putM s j e (8 * o + f)) o f (nW s) w) (Classical.propDecidable _) (nI (wc (putM s j e (8 * o + f)) w + 1)) (s.2 30 w) := rfl
    have ew : wc (putM s j e (8 * o + f)) w = wc s w := rfl
    by_cases z : ntC (putM s j e (8 * o + f)) o f (nW s) w
    · rw [if_pos z, ew] at e30
      have hw2 : wc (goM s j e o f) w = wc s w + 1 := by unfold wc at *; rw [e30]; exact cl _ (by omega)
      have := z.2.2
      rw [ew] at this
      exact ⟨by rw [e30, hw2], by rw [hw2]; omega⟩
    · rw [if_neg z] at e30
      have hw2 : wc (goM s j e o f) w = wc s w := by unfold wc; rw [e30]
      exact ⟨by rw [e30, hw2]; exact c, by rw [hw2]; exact d⟩
  · unfold IvF FOK
    rw [enf, e2 3 (by omega) (by omega) (by omega) (by omega), e2 4 (by omega) (by omega) (by omega) (by omega), e2 5 (by omega) (by omega) (by omega) (by omega), e2 6 (by omega) (by omega) (by omega) (by omega)]
    exact ivf
  · intro o' ho' f' hf'
    rw [esh, enf] at hf'
    have n8 := (ivs.2.2.1 _ (ivo.2.2 o ho).2).2
    have n8' := (ivs.2.2.1 _ (ivo.2.2 o' ho').2).2
    unfold VOK
    rw [esh, e2 3 (by omega) (by omega) (by omega) (by omega), enO, e10]
    by_cases z : 8 * o' + f' = 8 * o + f
    · obtain rfl : o' = o := by omega
      obtain rfl : f' = f := by omega
      rw [pk_us]
      refine ⟨hr.1, fun hk => ?_⟩
      obtain ⟨n, q1, q2, q3⟩ := hr.2 hk
      refine ⟨n, q1, q2, fun i hi => ?_⟩
      obtain ⟨t, y1, y2⟩ := q3 i hi
      refine ⟨t, y1, ?_⟩
      rw [e11, if_pos (by omega), show 6 * (8 * o' + f') + i - 6 * (8 * o' + f') = i by omega]
      exact y2
    · rw [pk_un z]
      refine ⟨(ivv o' ho' f' hf').1, fun hk => ?_⟩
      obtain ⟨n, q1, q2, q3⟩ := (ivv o' ho' f' hf').2 hk
      refine ⟨n, q1, q2, fun i hi => ?_⟩
      rw [e11, if_neg (by omega)]
      exact q3 i hi
