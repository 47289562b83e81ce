/-! the invariant kept: fields, objects -/
theorem Inv.add {n : Nat} {s t : Mem} {i : Nat} {k a b y fl r : Int32} (h : Inv n s) (hi : i < nS s) (hR : AdR s i k a b y fl r t) (hf : agst s i = 0 → t = addM s i k a b y fl → FOK t i (nf s i)) (hk : k = 3 → fl = 0) : Inv (n + 1) t := by
  rcases hR with ⟨ha, _, e⟩ | ⟨_, _, c⟩
  · have hF := hf ha e
    obtain ⟨⟨ivs, ivf, ivi, ivk⟩, ivo, ivw, ivp, ihi, S, hc⟩ := h
    have n10 := ivs.2.1
    obtain ⟨oob, ohi⟩ := addM.ob (k := k) (a := a) (b := b) (y := y) (fl := fl) ivs ivo hi ha
    obtain ⟨ef, i8⟩ := ivs.2.2.1 i hi
    have hno : ¬ ((∃ k, k < nS s ∧ s.2 1 k = nI i) ∨ ∃ o, o < nO s ∧ s.2 9 o = nI i) := fun q => by
      unfold agst at ha
      rw [if_pos q] at ha
      exact absurd ha (by decide)
    have ne8 : nf s i ≠ 8 := fun q => by
      unfold agst at ha
      rw [if_neg hno, if_pos (by rw [ef, q]; rfl)] at ha
      exact absurd ha (by decide)
    subst e
    have g : ∀ q, q < 2 ∨ 7 < q → (addM s i k a b y fl).2 q = s.2 q := fun q hq => addM_n _ _ _ _ _ _ _ hq
    have gx : ∀ q x, 3 ≤ q ∧ q ≤ 7 → x ≠ 8 * i + nf s i → (addM s i k a b y fl).2 q x = s.2 q x := fun q x hq hx => addM_x _ _ _ _ _ _ _ hq hx
    have enf : ∀ j, j ≠ i → nf (addM s i k a b y fl) j = nf s j := fun j hj => addM_nfn _ _ _ _ _ _ _ hj
    have eni : nf (addM s i k a b y fl) i = nf s i + 1 := addM_nf _ _ _ _ _ _ _ (by omega)
    have g2 : ∀ j, j ≠ i → (addM s i k a b y fl).2 2 j = s.2 2 j := fun j hj => addM_2n _ _ _ _ _ _ _ hj
    have g2i : (addM s i k a b y fl).2 2 i = nI (nf s i + 1) := addM_2s _ _ _ _ _ _ _
    have gf : (addM s i k a b y fl).1 = s.1 := rfl
    have g3i : (addM s i k a b y fl).2 3 (8 * i + nf s i) = k ∧ (addM s i k a b y fl).2 7 (8 * i + nf s i) = fl := by
      have := addM_f s i k a b y fl
      unfold fdS fdV at this
      simp only [List.cons.injEq, Value.int.injEq, and_true] at this
      exact ⟨this.1, this.2.2.2.2⟩
    generalize addM s i k a b y fl = t at *
    have eS : nS t = nS s := by unfold nS; rw [gf]
    have eO : nO t = nO s := by unfold nO; rw [gf]
    have esh : sh t = sh s := by funext o; unfold sh; rw [g 9 (by omega)]
    have nx : ∀ x j, x < nS s → j < nf s x → 8 * x + j ≠ 8 * i + nf s i := fun x j hx hj q => by
      have x8 := (ivs.2.2.1 x hx).2
      have : x = i := by omega
      subst this
      omega
    have enl : ∀ x, nf s x ≤ nf t x := fun x => by
      by_cases z : x = i
      · subst z; omega
      · rw [enf x z]; exact Nat.le_refl _
    have hxg : ∀ x g', x < nS s → g' < nf s x → g' < nf t x ∧ t.2 3 (8 * x + g') = s.2 3 (8 * x + g') := fun x g' y1 y3 => ⟨by have := enl x; omega, gx 3 _ (by omega) (nx x g' y1 y3)⟩
    have hsn : ∀ o, o < nO s → sh s o ≠ i := fun o ho q => hno (Or.inr ⟨o, ho, by rw [← q]; exact (ivo.2.2 o ho).1⟩)
    refine ⟨⟨⟨by rw [gf, eS]; exact ivs.1, by omega, fun x hx => ?_, fun x hx => ?_⟩, fun x hx j hj => ?_, fun x hx z hz hxz => ?_, fun x j hx hj h3 => ?_⟩, ivo.of (by rw [gf]) (by rw [gf]) (g 9 (by omega)), ivw.of (by rw [gf]) (by rw [gf]) (g 26 (by omega)) (g 27 (by omega)) (g 30 (by omega)), ivp.of (by rw [gf]) (g 34 (by omega)) (g 35 (by omega)) (g 36 (by omega)) (by rw [gf]), ihi.of (Nat.le_succ _) ohi, S, hc.agr oob ⟨eO, fun o ho => ?_, fun o ho b hb => ?_⟩ (g 10 (by omega)) (g 11 (by omega)) ohi⟩
    · rw [eS] at hx
      by_cases z : x = i
      · subst z; rw [eni, g2i]; exact ⟨rfl, by omega⟩
      · rw [enf x z, g2 x z]; exact ivs.2.2.1 x hx
    · rw [eS] at hx
      rw [g 1 (by omega)]
      exact ivs.2.2.2 x hx
    · rw [eS] at hx
      by_cases w : x = i ∧ j = nf s i
      · rw [w.1, w.2]; exact hF
      · have hj' : j < nf s x := by
          by_cases z : x = i
          · subst z
            rw [eni] at hj
            have : j ≠ nf s x := fun q => w ⟨rfl, q⟩
            omega
          · rw [enf x z] at hj; exact hj
        exact (ivf x hx j hj').mv (by omega) (fun f hf => gx 3 _ (by omega) (nx x f hx (by omega))) (fun f hf => gx 4 _ (by omega) (nx x f hx (by omega))) (gx 5 _ (by omega) (nx x j hx hj')) (gx 6 _ (by omega) (nx x j hx hj')) hxg
    · rw [eS] at hx
      rw [g 1 (by omega)] at hxz
      have zi : z ≠ i := fun q => hno (Or.inl ⟨x, hx, by rw [hxz, q]⟩)
      obtain ⟨y1, y2⟩ := ivi x hx z hz hxz
      rw [enf z zi]
      refine ⟨Nat.le_trans y1 (enl x), fun j hj => ?_⟩
      rw [gx 3 _ (by omega) (nx x j hx (by omega)), gx 3 _ (by omega) (nx z j (by omega) hj)]
      exact y2 j hj
    · rw [eS] at hx
      by_cases w : x = i ∧ j = nf s i
      · rw [w.1, w.2] at h3 ⊢
        rw [g3i.2]
        rw [g3i.1] at h3
        exact hk h3
      · have hj' : j < nf s x := by
          by_cases z : x = i
          · subst z
            rw [eni] at hj
            have : j ≠ nf s x := fun q => w ⟨rfl, q⟩
            omega
          · rw [enf x z] at hj; exact hj
        rw [gx 3 _ (by omega) (nx x j hx hj')] at h3
        rw [gx 7 _ (by omega) (nx x j hx hj')]
        exact ivk x j hx hj' h3
    · have hs := (ivo.2.2 o ho).2
      exact ⟨by rw [esh], enf _ (hsn o ho), fun f hf => ⟨gx 3 _ (by omega) (nx _ f hs hf), gx 4 _ (by omega) (nx _ f hs hf), gx 7 _ (by omega) (nx _ f hs hf)⟩⟩
    · unfold isOf at hb ⊢
      rw [g 1 (by omega)]
      exact hb
  · exact h.sc c
theorem addM_at (s : Mem) (i : Nat) (k a b y fl : Int32) : (addM s i k a b y fl).2 3 (8 * i + nf s i) = k ∧ (addM s i k a b y fl).2 4 (8 * i + nf s i) = a ∧ (addM s i k a b y fl).2 5 (8 * i + nf s i) = b ∧ (addM s i k a b y fl).2 6 (8 * i + nf s i) = y := by
  have := addM_f s i k a b y fl
  unfold fdS fdV at this
  simp only [List.cons.injEq, Value.int.injEq, and_true] at this
  exact ⟨this.1, this.2.1, this.2.2.1, this.2.2.2.1⟩
theorem Inv.number {n : Nat} {s t : Mem} {v a b q1 q2 r : Int32} (h : Inv n s) (hR : R_num s v a b q1 q2 r t) : Inv (n + 1) t := by
  rcases hR with ⟨⟨⟨i, hi, rfl⟩, _⟩, z⟩ | ⟨_, _, c⟩
  · have n10 := h.1.1.2.1
    rw [cl i (by omega)] at z
    refine h.add hi z (fun _ e => ?_) (fun e => absurd e (by decide))
    subst e
    exact Or.inl (addM_at _ _ _ _ _ _ _).1
  · exact h.sc c
theorem Inv.link {n : Nat} {s t : Mem} {v u l q1 q2 q3 r : Int32} (h : Inv n s) (hR : R_lnk s v u l q1 q2 q3 r t) : Inv (n + 1) t := by
  rcases hR with ⟨⟨⟨i, hi, rfl⟩, ⟨x, hx, rfl⟩, _⟩, z⟩ | ⟨_, _, c⟩
  · have n10 := h.1.1.2.1
    rw [cl i (by omega)] at z
    refine h.add hi z (fun _ e => ?_) (fun e => ?_)
    · subst e
      obtain ⟨e1, e2, _⟩ := addM_at s i (if l = 0 then 1 else 2) (nI x) (-1) (-1) (flg q1 q2 q3)
      refine Or.inr (Or.inl ⟨?_, x, hx, e2⟩)
      rw [e1]
      by_cases w : l = 0
      · rw [if_pos w]; exact Or.inl rfl
      · rw [if_neg w]; exact Or.inr rfl
    · by_cases w : l = 0
      · rw [if_pos w] at e; exact absurd e (by decide)
      · rw [if_neg w] at e; exact absurd e (by decide)
  · exact h.sc c
theorem Inv.derived {n : Nat} {s t : Mem} {v c f y r : Int32} (h : Inv n s) (hR : R_der s v c f y r t) : Inv (n + 1) t := by
  rcases hR with ⟨⟨⟨i, hi, rfl⟩, hm⟩, z⟩ | ⟨_, _, c⟩
  · have n10 := h.1.1.2.1
    rw [cl i (by omega)] at z hm
    have ivs := h.1.1
    have ef := (ivs.2.2.1 i hi).1
    have i8 := (ivs.2.2.1 i hi).2
    refine h.add hi z (fun ha e => ?_) (fun _ => rfl)
    have ne8 : nf s i ≠ 8 := fun q => by
      unfold agst at ha
      rw [if_pos (show s.2 2 i = 8 by rw [ef, q]; rfl)] at ha
      split at ha
      · exact absurd ha (by decide)
      · exact absurd ha (by decide)
    subst e
    obtain ⟨e3, e4, e5, e6⟩ := addM_at s i 3 c f y 0
    have gx : ∀ x j, x < nS s → j < nf s x → (addM s i 3 c f y 0).2 3 (8 * x + j) = s.2 3 (8 * x + j) ∧ (addM s i 3 c f y 0).2 4 (8 * x + j) = s.2 4 (8 * x + j) := fun x j hx hj => by
      have x8 := (ivs.2.2.1 x hx).2
      have hne : 8 * x + j ≠ 8 * i + nf s i := fun q => by
        have : x = i := by omega
        subst this
        omega
      exact ⟨addM_x _ _ _ _ _ _ _ (by omega) hne, addM_x _ _ _ _ _ _ _ (by omega) hne⟩
    have enl : ∀ x, nf s x ≤ nf (addM s i 3 c f y 0) x := fun x => by
      by_cases z : x = i
      · subst z; rw [addM_nf _ _ _ _ _ _ _ (by omega)]; omega
      · rw [addM_nfn _ _ _ _ _ _ _ z]; exact Nat.le_refl _
    have eS : nS (addM s i 3 c f y 0) = nS s := rfl
    refine Or.inr (Or.inr ⟨e3, ?_⟩)
    rw [e4, e5, e6, eS]
    rcases hm with ⟨hc, ⟨j, hj, rfl, k1⟩, ⟨j2, hj2, rfl, k2⟩⟩ | ⟨rfl, j, hj, rfl, k1⟩ | ⟨rfl, ⟨j, hj, rfl, k1⟩, j', x, hj', ej', hx, ex, g', hg', rfl, kg⟩ | ⟨rfl, hin⟩
    · obtain ⟨c', hc', ec'⟩ : ∃ c', c' ≤ 2 ∧ c = nI c' := by
        rcases hc with q | q | q
        · exact ⟨0, by omega, q⟩
        · exact ⟨1, by omega, q⟩
        · exact ⟨2, by omega, q⟩
      refine ⟨c', j, by omega, hj, ec', rfl, fun _ => ⟨j2, hj2, rfl, by rw [(gx i j hi hj).1]; exact k1, by rw [(gx i j2 hi hj2).1]; exact k2⟩, fun q => by omega, fun q => by omega⟩
    · exact ⟨3, j, by omega, hj, rfl, rfl, fun q => by omega, fun _ => by rw [(gx i j hi hj).1]; exact k1, fun q => by omega⟩
    · have ejj : j' = j := (nI_inj8 (by omega) (by omega) ej').symm
      subst ejj
      exact ⟨4, j', by omega, hj, rfl, rfl, fun q => by omega, fun _ => by rw [(gx i j' hi hj).1]; exact k1, fun _ => ⟨x, g', hx, by rw [(gx i j' hi hj).2]; exact ex, by have := enl x; omega, rfl, by rw [(gx x g' hx hg').1]; exact kg⟩⟩
    · obtain ⟨j, hj, rfl⟩ := inF.ix ivs hi hin
      exact ⟨5, j, by omega, hj, rfl, rfl, fun q => by omega, fun q => by omega, fun q => by omega⟩
  · exact h.sc c
/-! objects come -/
theorem VOK.up {s t : Mem} {o f : Nat} (h : VOK s o f) (hk : t.2 3 (8 * sh t o + f) = s.2 3 (8 * sh s o + f)) (h10 : t.2 10 (8 * o + f) = s.2 10 (8 * o + f)) (h11 : ∀ i, i < 6 → t.2 11 (6 * (8 * o + f) + i) = s.2 11 (6 * (8 * o + f) + i)) (hN : nO s ≤ nO t) : VOK t o f := by
  unfold VOK at *
  rw [hk, h10]
  refine ⟨fun k => (h.1 k).imp id (fun ⟨x, x1, x2⟩ => ⟨x, by omega, x2⟩), fun k => ?_⟩
  obtain ⟨n, n1, n2, n3⟩ := h.2 k
  refine ⟨n, n1, n2, fun i hi => ?_⟩
  obtain ⟨x, x1, x2⟩ := n3 i hi
  exact ⟨x, by omega, by rw [h11 i (by omega)]; exact x2⟩
def gro (s t : Mem) (x : VP) : VP := (fun z => if z < 8 * nO s then x.1 z else t.2 10 z, fun z => if z < 48 * nO s then x.2 z else t.2 11 z)
/-- what new objects must be like -/
def Gr (s t : Mem) (p : Nat → Nat) : Prop := (∀ o, nO s ≤ o → o < nO t → ∀ f, f < nf t (sh t o) → VOK t o f ∧ (s.2 3 (8 * sh t o + f) = 2 → ∀ i, i < (t.2 10 (8 * o + f)).toNatClampNeg → ∀ x, x < nO t → t.2 11 (6 * (8 * o + f) + i) = nI x → isOf s (nI (sh t x)) (s.2 4 (8 * sh t o + f)) = true)) ∧ ∀ a b, nO s ≤ a → Hd t a b → nO s ≤ b ∧ Hd s (p a) (p b)
theorem Ch.grw {s t : Mem} {S : Nat → VP} {p : Nat → Nat} (ivs : IvS s) (ivo : IvO s) (n60 : nO t ≤ 60) (h : Ch s S) (hO : ObE s t) (hH : HiE s t) (hN : nO s ≤ nO t) (a : ∀ q, 1 ≤ q → q ≤ 7 → t.2 q = s.2 q) (v10 : ∀ x, x < 8 * nO s → t.2 10 x = s.2 10 x) (v11 : ∀ x, x < 48 * nO s → t.2 11 x = s.2 11 x) (hG : Gr s t p) (ac : Acy (Hd s)) : Ch t (fun k => gro s t (S k)) := by
  obtain ⟨h1, h2, h3⟩ := h
  have f16 := hH.1 16 (by omega)
  have f20 := hH.1 20 (by omega)
  have f21 := hH.1 21 (by omega)
  have g22 := hH.2 22 (by omega)
  have eE : nE t = nE s := by unfold nE; rw [f16]
  have eE' : nE' t = nE' s := by unfold nE' dEnd nD nEn nE en; rw [f16, f20, f21, g22]
  have enf : nf t = nf s := by funext i; unfold nf; rw [a 2 (by omega) (by omega)]
  have n8 : ∀ o, o < nO s → nf s (sh s o) ≤ 8 := fun o ho => (ivs.2.2.1 _ (ivo.2.2 o ho).2).2
  refine ⟨fun e he => ?_, ?_, fun k hk => ?_⟩
  · obtain ⟨o, f, q1, q2, q3, q4, q5, q6, q7, q8, q9⟩ := h1 e (by omega)
    have o8 := n8 o q1
    obtain ⟨o1, o2, o3⟩ := hO o q1
    obtain ⟨f1, f2⟩ := o3 f q2
    have lt1 : 8 * o + f < 8 * nO s := by omega
    refine ⟨o, f, o1, by rw [o2]; exact f1, by rw [o2, f2]; exact q3, by rw [hH.2 17 (by omega)]; exact q4, fun z hz => ?_, fun z hz => ?_, ?_, ?_, fun k hk => ⟨?_, ?_⟩⟩
    · unfold gro
      dsimp only
      by_cases w : z < 8 * nO s
      · rw [if_pos w, if_pos w]; exact q5 z hz
      · rw [if_neg w, if_neg w]
    · unfold gro
      dsimp only
      by_cases w : z < 48 * nO s
      · rw [if_pos w, if_pos w]; exact q6 z hz
      · rw [if_neg w, if_neg w]
    · unfold gro
      dsimp only
      rw [if_pos lt1, hH.2 18 (by omega)]; exact q7
    · unfold gro
      dsimp only
      rw [if_pos lt1, hH.2 19 (by omega)]; exact q8
    · unfold gro
      dsimp only
      rw [if_pos (by omega), hH.2 18 (by omega)]; exact (q9 k hk).1
    · unfold gro
      dsimp only
      rw [if_pos (by omega), hH.2 19 (by omega)]; exact (q9 k hk).2
  · rw [eE']
    dsimp only
    rw [h2]
    unfold gro cur
    refine Prod.ext (funext fun z => ?_) (funext fun z => ?_)
    · dsimp only
      by_cases w : z < 8 * nO s
      · rw [if_pos w, v10 z w]
      · rw [if_neg w]
    · dsimp only
      by_cases w : z < 48 * nO s
      · rw [if_pos w, v11 z w]
      · rw [if_neg w]
  · obtain ⟨k1, k2, k3⟩ := h3 k (by omega)
    have esh : ∀ o, o < nO s → sh t o = sh s o := fun o ho => (hO o ho).2.1
    have w3 : ∀ x : VP, (wV t x).2 3 = s.2 3 := fun x => by rw [wV_2 _ _ (by omega) (by omega), a 3 (by omega) (by omega)]
    have u3 : ∀ x : VP, (wV s x).2 3 = s.2 3 := fun x => wV_2 _ _ (by omega) (by omega)
    have w4 : ∀ x : VP, (wV t x).2 4 = s.2 4 := fun x => by rw [wV_2 _ _ (by omega) (by omega), a 4 (by omega) (by omega)]
    have u4 : ∀ x : VP, (wV s x).2 4 = s.2 4 := fun x => wV_2 _ _ (by omega) (by omega)
    have w7 : ∀ x : VP, (wV t x).2 7 = s.2 7 := fun x => by rw [wV_2 _ _ (by omega) (by omega), a 7 (by omega) (by omega)]
    have u7 : ∀ x : VP, (wV s x).2 7 = s.2 7 := fun x => wV_2 _ _ (by omega) (by omega)
    have eIs : ∀ x y, isOf t x y = isOf s x y := fun x y => by unfold isOf; rw [a 1 (by omega) (by omega)]
    have old10 : ∀ o f, o < nO s → f < 8 → (gro s t (S k)).1 (8 * o + f) = (S k).1 (8 * o + f) := fun o f ho hf => by unfold gro; exact if_pos (by omega)
    have old11 : ∀ o f i, o < nO s → f < 8 → i < 6 → (gro s t (S k)).2 (6 * (8 * o + f) + i) = (S k).2 (6 * (8 * o + f) + i) := fun o f i ho hf hi => by unfold gro; exact if_pos (by omega)
    have new10 : ∀ o f, nO s ≤ o → (gro s t (S k)).1 (8 * o + f) = t.2 10 (8 * o + f) := fun o f ho => by unfold gro; exact if_neg (by omega)
    have new11 : ∀ o f i, nO s ≤ o → (gro s t (S k)).2 (6 * (8 * o + f) + i) = t.2 11 (6 * (8 * o + f) + i) := fun o f i ho => by unfold gro; exact if_neg (by omega)
    have hedge : ∀ x y, Hd (wV t (gro s t (S k))) x y → (x < nO s ∧ y < nO s ∧ Hd (wV s (S k)) x y) ∨ (nO s ≤ x ∧ nO s ≤ y ∧ Hd s (p x) (p y)) := by
      intro x y hxy
      obtain ⟨q1, q2, f, hf, hk', hw, i, hi, ei⟩ := hxy
      rw [wV_nO] at q1 q2
      rw [wV_sh, wV_nf] at hf
      unfold rowN at hi
      unfold rowF at ei
      rw [wV_sh, w3] at hk' hi ei
      rw [wV_sh, w7] at hw
      rw [wV_10] at hi ei
      rw [wV_11] at ei
      by_cases ho : x < nO s
      · rw [esh x ho] at hf hk' hi ei hw
        rw [enf] at hf
        have f8 := n8 x ho
        have hin := row_in k1 ho (by rw [wV_sh, wV_nf]; exact hf) (by rw [wV_sh, u3]; exact hk')
        unfold rowN rowF at hin
        rw [wV_sh, u3, wV_10, wV_11, wV_nO] at hin
        rw [old10 x f ho (by omega)] at hi ei
        have ei' : rwF (s.2 3 (8 * sh s x + f)) ((S k).1 (8 * x + f)) (fun i => (S k).2 (6 * (8 * x + f) + i)) i = nI y := by
          rw [← ei]
          unfold rwF
          by_cases z : s.2 3 (8 * sh s x + f) = 2
          · rw [if_pos z, if_pos z]
            exact (old11 x f i ho (by omega) (by have := hin.2; omega)).symm
          · rw [if_neg z, if_neg z]
        obtain ⟨y', hy', ey'⟩ := (hin.1 i hi).resolve_left (fun z => by rw [ei'] at z; exact nI_miss (by omega) z)
        have eyy : y = y' := nI_inj8 (by omega) (by omega) (ei'.symm.trans ey')
        have hy : y < nO s := by rw [eyy]; exact hy'
        refine Or.inl ⟨ho, hy, ho, hy, f, by rw [wV_sh, wV_nf]; exact hf, by rw [wV_sh, u3]; exact hk', by rw [wV_sh, u7]; exact hw, i, ?_, ?_⟩
        · unfold rowN; rw [wV_sh, u3, wV_10]; exact hi
        · unfold rowF; rw [wV_sh, u3, wV_10, wV_11]; exact ei'
      · have ho' : nO s ≤ x := by omega
        have : Hd t x y := by
          refine ⟨q1, q2, f, hf, by rw [a 3 (by omega) (by omega)]; exact hk', by rw [a 7 (by omega) (by omega)]; exact hw, i, ?_, ?_⟩
          · unfold rowN; rw [a 3 (by omega) (by omega), ← new10 x f ho']; exact hi
          · rw [← ei]
            unfold rowF
            rw [a 3 (by omega) (by omega), new10 x f ho']
            unfold rwF
            by_cases z : s.2 3 (8 * sh t x + f) = 2
            · rw [if_pos z, if_pos z]; exact (new11 x f i ho').symm
            · rw [if_neg z, if_neg z]
        obtain ⟨r1, r2⟩ := hG.2 x y ho' this
        exact Or.inr ⟨ho', r1, r2⟩
    refine ⟨fun o ho f hf => ?_, fun o ho f hf => ?_, fun x y hxy hr => ?_⟩
    · rw [wV_nO] at ho
      rw [wV_sh, wV_nf] at hf
      by_cases w : o < nO s
      · rw [esh o w, enf] at hf
        have f8 := n8 o w
        refine (k1 o w f (by rw [wV_sh, wV_nf]; exact hf)).up (by rw [w3, u3, wV_sh, wV_sh, esh o w]) (by rw [wV_10, wV_10]; exact old10 o f w (by omega)) (fun i hi => by rw [wV_11, wV_11]; exact old11 o f i w (by omega) hi) hN
      · refine (hG.1 o (by omega) ho f hf).1.up (by rw [w3, wV_sh, a 3 (by omega) (by omega)]) (by rw [wV_10]; exact new10 o f (by omega)) (fun i hi => by rw [wV_11]; exact new11 o f i (by omega)) (Nat.le_refl _)
    · rw [wV_nO] at ho ⊢
      rw [wV_sh, wV_nf] at hf
      rw [w3, w4, wV_10, wV_11, wV_sh]
      intro h2' i hi x hx ex
      rw [wV_isOf, eIs]
      by_cases w : o < nO s
      · rw [esh o w, enf] at hf
        rw [esh o w] at h2' ⊢
        have f8 := n8 o w
        rw [old10 o f w (by omega)] at hi
        have hvk := (k1 o w f (by rw [wV_sh, wV_nf]; exact hf)).2 (by rw [u3, wV_sh]; exact h2')
        rw [wV_10, wV_11, wV_nO] at hvk
        obtain ⟨len, l6, el, pl'⟩ := hvk
        rw [el, cl len (by omega)] at hi
        rw [old11 o f i w (by omega) (by omega)] at ex
        obtain ⟨x', hx', ex'⟩ := pl' i hi
        have exx : x = x' := nI_inj8 (by omega) (by omega) (ex.symm.trans ex')
        have hxs : x < nO s := by rw [exx]; exact hx'
        have := k2 o w f (by rw [wV_sh, wV_nf]; exact hf) (by rw [u3, wV_sh]; exact h2') i (by rw [wV_10, el, cl len (by omega)]; exact hi) x hxs (by rw [wV_11]; exact ex)
        rw [wV_isOf, wV_sh, u4] at this
        rw [esh x hxs]
        exact this
      · rw [new10 o f (by omega)] at hi
        rw [new11 o f i (by omega)] at ex
        exact (hG.1 o (by omega) ho f hf).2 h2' i hi x hx ex
    · rcases hedge x y hxy with ⟨x1, y1, e1⟩ | ⟨x1, y1, e1⟩
      · have := hr (fun z => z < nO s ∧ RT (Hd (wV s (S k))) y z) ⟨y1, RT.rf _ _⟩ (fun u v hu' huv => by
          rcases hedge u v huv with ⟨u1, v1, e2⟩ | ⟨u1, _, _⟩
          · exact ⟨v1, hu'.2.st e2⟩
          · exact absurd hu'.1 (by omega))
        exact k3 x y e1 this.2
      · have := hr (fun z => nO s ≤ z ∧ RT (Hd s) (p y) (p z)) ⟨y1, RT.rf _ _⟩ (fun u v hu' huv => by
          rcases hedge u v huv with ⟨u1, v1, e2⟩ | ⟨_, v1, e2⟩
          · exact absurd hu'.1 (by omega)
          · exact ⟨v1, hu'.2.st e2⟩)
        exact ac (p x) (p y) e1 this.2
theorem Inv.object {n : Nat} {s t : Mem} {v r : Int32} (h : Inv n s) (hR : R_obj s v r t) : Inv (n + 1) t := by
  rcases hR with ⟨⟨i, hi, rfl⟩, ⟨_, _, c⟩ | ⟨h9, _, e⟩⟩ | ⟨_, _, c⟩
  · exact h.sc c
  · obtain ⟨ish, ivo, ivw, ivp, ihi, S, hc⟩ := h
    have ivs := ish.1
    have n10 := ivs.2.1
    have n60 := ivo.2.1
    rw [cl i (by omega)] at e
    obtain ⟨oob, ohi⟩ := e.ob ivo (by omega)
    have ac := (hc.now ihi.1).2.2
    obtain ⟨t0, ⟨e1, e2, e3, e4, e5⟩, rfl⟩ := e
    have f8 : (mF t0 8 (nI (nO s + 1))).1 8 = nI (nO s + 1) := mF_1s _ _ _
    have fq : ∀ q, q ≠ 8 → (mF t0 8 (nI (nO s + 1))).1 q = s.1 q := fun q hq => by rw [mF_1n _ _ hq, e1]
    have g9 : (mF t0 8 (nI (nO s + 1))).2 9 = upd (s.2 9) (nO s) (nI i) := by rw [mF_2, e2]
    have gq : ∀ q, q ≠ 9 → q ≠ 10 → (mF t0 8 (nI (nO s + 1))).2 q = s.2 q := fun q q1 q2 => by rw [mF_2, e3 q q1 q2]
    have g10 : ∀ x, x < 8 * nO s → (mF t0 8 (nI (nO s + 1))).2 10 x = s.2 10 x := fun x hx => by rw [mF_2, e4 x (Or.inl hx)]
    have g10n : ∀ y, y < nf s i → (mF t0 8 (nI (nO s + 1))).2 10 (8 * nO s + y) = if s.2 3 (8 * i + y) = 2 then 0 else MISS := fun y hy => by
      have := (ivs.2.2.1 i hi).2
      rw [mF_2, e5 y (by omega)]
      simp [hy]
    generalize mF t0 8 (nI (nO s + 1)) = t at *
    have eO : nO t = nO s + 1 := by unfold nO; rw [f8]; exact cl _ (by omega)
    have eS : nS t = nS s := by unfold nS; rw [fq 0 (by omega)]
    have enf : nf t = nf s := by funext j; unfold nf; rw [gq 2 (by omega) (by omega)]
    have esn : sh t (nO s) = i := by unfold sh; rw [g9, pk_us]; exact cl i (by omega)
    have eso : ∀ o, o ≠ nO s → sh t o = sh s o := fun o ho => by unfold sh; rw [g9, pk_un ho]
    refine ⟨ish.of (fq 0 (by omega)) (fun q q1 q2 => gq q (by omega) (by omega)), ⟨by rw [f8, eO], by omega, fun o ho => ?_⟩, ivw.of (fq 0 (by omega)) (fq 25 (by omega)) (gq 26 (by omega) (by omega)) (gq 27 (by omega) (by omega)) (gq 30 (by omega) (by omega)), ivp.of (fq 33 (by omega)) (gq 34 (by omega) (by omega)) (gq 35 (by omega) (by omega)) (gq 36 (by omega) (by omega)) (fq 0 (by omega)), ihi.of (Nat.le_succ _) ohi, _, hc.grw (p := fun x => x) ivs ivo (by omega) oob ohi (by omega) (fun q q1 q2 => gq q (by omega) (by omega)) g10 (fun x _ => by rw [gq 11 (by omega) (by omega)]) ⟨fun o ho1 ho2 f hf => ?_, fun a b ha hab => ?_⟩ ac⟩
    · rw [eO] at ho
      rw [eS]
      by_cases z : o = nO s
      · subst z; rw [esn, g9, pk_us]; exact ⟨rfl, hi⟩
      · rw [eso o z, g9, pk_un z]; exact ivo.2.2 o (by omega)
    · obtain rfl : o = nO s := by omega
      rw [esn, enf] at hf
      have gg := g10n f hf
      unfold VOK
      rw [esn, gq 3 (by omega) (by omega), gg]
      refine ⟨⟨fun k => ?_, fun k => ?_⟩, fun k j hj => ?_⟩
      · rw [k]; exact Or.inl rfl
      · rw [if_pos k]; exact ⟨0, by omega, rfl, fun j hj => absurd hj (Nat.not_lt_zero _)⟩
      · rw [if_pos k] at hj; exact absurd hj (Nat.not_lt_zero _)
    · exfalso
      obtain ⟨q1, q2, f, hf, hk', hw, j, hj, ej⟩ := hab
      obtain rfl : a = nO s := by omega
      rw [esn, enf] at hf
      have gg := g10n f hf
      unfold rowN at hj
      unfold rowF at ej
      rw [esn, gq 3 (by omega) (by omega)] at hk' hj ej
      rw [gg] at hj ej
      rcases hk' with k | k
      · rw [k] at hj ej
        unfold rwF at ej
        rw [if_neg (by decide), if_neg (by decide)] at ej
        exact nI_miss (by omega) ej.symm
      · rw [k] at hj
        unfold rwN at hj
        rw [if_pos rfl, if_pos rfl] at hj
        exact absurd hj (Nat.not_lt_zero _)
  · exact h.sc c
