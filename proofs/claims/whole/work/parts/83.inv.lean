/-! THE INVARIANT between two calls: shapes, objects, and the history as a row of states that are all right -/
abbrev VP : Type := (Nat → Int32) × (Nat → Int32)
def wV (s : Mem) (x : VP) : Mem := (s.1, va_up (va_up s.2 10 x.1) 11 x.2)
def cur (s : Mem) : VP := (s.2 10, s.2 11)
theorem wV_10 (s : Mem) (x : VP) : (wV s x).2 10 = x.1 := by
  show va_up (va_up s.2 10 x.1) 11 x.2 10 = _
  rw [va_up_ne _ _ (by decide), va_up_self]
theorem wV_11 (s : Mem) (x : VP) : (wV s x).2 11 = x.2 := va_up_self (va_up s.2 10 x.1) 11 x.2
theorem wV_2 (s : Mem) (x : VP) {q : Nat} (h1 : q ≠ 10) (h2 : q ≠ 11) : (wV s x).2 q = s.2 q := by
  show va_up (va_up s.2 10 x.1) 11 x.2 q = _
  rw [va_up_ne _ _ h2, va_up_ne _ _ h1]
theorem wV_1 (s : Mem) (x : VP) : (wV s x).1 = s.1 := rfl
theorem wV_cur (s : Mem) : wV s (cur s) = s := by
  refine Prod.ext rfl (funext fun q => ?_)
  by_cases e : q = 11
  · subst e; exact wV_11 _ _
  · by_cases e2 : q = 10
    · subst e2; exact wV_10 _ _
    · exact wV_2 _ _ e2 e
theorem wV_sh (s : Mem) (x : VP) : sh (wV s x) = sh s := by funext o; unfold sh; rw [wV_2 _ _ (by omega) (by omega)]
theorem wV_nf (s : Mem) (x : VP) : nf (wV s x) = nf s := by funext o; unfold nf; rw [wV_2 _ _ (by omega) (by omega)]
theorem wV_nO (s : Mem) (x : VP) : nO (wV s x) = nO s := rfl
theorem wV_isOf (s : Mem) (x : VP) (a b : Int32) : isOf (wV s x) a b = isOf s a b := by unfold isOf; rw [wV_2 _ _ (by omega) (by omega)]
/-- each OBJECT in a list is of the list's shape -/
def LTy (s : Mem) : Prop := ∀ o, o < nO s → ∀ f, f < nf s (sh s o) → s.2 3 (8 * sh s o + f) = 2 → ∀ i, i < (s.2 10 (8 * o + f)).toNatClampNeg → ∀ t, t < nO s → s.2 11 (6 * (8 * o + f) + i) = nI t → isOf s (nI (sh s t)) (s.2 4 (8 * sh s o + f)) = true
def OKV (s : Mem) : Prop := IvV s ∧ LTy s ∧ Acy (Hd s)
/-- a shape has the fields of the one above it first -/
def IvI (s : Mem) : Prop := ∀ i, i < nS s → ∀ k, k < i → s.2 1 i = nI k → nf s k ≤ nf s i ∧ ∀ j, j < nf s k → s.2 3 (8 * i + j) = s.2 3 (8 * k + j)
/-- edit e leads from x to y -/
def StpE (s : Mem) (e : Nat) (x y : VP) : Prop := ∃ o f, o < nO s ∧ f < nf s (sh s o) ∧ s.2 3 (8 * sh s o + f) ≠ 3 ∧ s.2 17 e = nI (8 * o + f) ∧ (∀ z, z ≠ 8 * o + f → y.1 z = x.1 z) ∧ (∀ z, z < 6 * (8 * o + f) ∨ 6 * (8 * o + f) + 6 ≤ z → y.2 z = x.2 z) ∧ x.1 (8 * o + f) = s.2 18 (7 * e) ∧ y.1 (8 * o + f) = s.2 19 (7 * e) ∧ ∀ k, k < 6 → x.2 (6 * (8 * o + f) + k) = s.2 18 (7 * e + 1 + k) ∧ y.2 (6 * (8 * o + f) + k) = s.2 19 (7 * e + 1 + k)
def Ch (s : Mem) (S : Nat → VP) : Prop := (∀ e, e < nE s → StpE s e (S e) (S (e + 1))) ∧ S (nE' s) = cur s ∧ ∀ k, k ≤ nE s → OKV (wV s (S k))
def ISh (s : Mem) : Prop := IvS s ∧ IvF s ∧ IvI s ∧ IvK s
def IHi (n : Nat) (s : Mem) : Prop := IvH s ∧ IvG s ∧ IvX s ∧ nE s ≤ n
def Inv (n : Nat) (s : Mem) : Prop := ISh s ∧ IvO s ∧ IvW s ∧ IvP s ∧ IHi n s ∧ ∃ S, Ch s S
theorem nE'_le {s : Mem} (ivh : IvH s) : nE' s ≤ nE s := by
  have := dEnd_le ivh
  unfold nE'
  split
  · exact this
  · exact Nat.le_refl _
theorem Ch.now {s : Mem} {S : Nat → VP} (ivh : IvH s) (h : Ch s S) : OKV s := by
  have := h.2.2 (nE' s) (nE'_le ivh)
  rw [h.2.1, wV_cur] at this
  exact this
/-- up the shapes -/
theorem isOf_up {s : Mem} (ivs : IvS s) (ivi : IvI s) {t : Nat} (ht : t < 1000000) : ∀ (n i : Nat), i < nS s → isOfF (s.2 1) (nI t) n (nI i) = true → nf s t ≤ nf s i ∧ ∀ j, j < nf s t → s.2 3 (8 * i + j) = s.2 3 (8 * t + j)
  | 0, i, hi, h => by
    have n10 := ivs.2.1
    rw [isOfF, decide_eq_true_eq] at h
    rw [nI_inj8 (by omega) (by omega) h]
    exact ⟨Nat.le_refl _, fun _ _ => rfl⟩
  | n + 1, i, hi, h => by
    have n10 := ivs.2.1
    rw [isOfF] at h
    by_cases e : nI i = nI t
    · rw [nI_inj8 (by omega) (by omega) e]
      exact ⟨Nat.le_refl _, fun _ _ => rfl⟩
    · rw [if_neg (fun q => q.elim (nI_m1 (by omega)) e), cl i (by omega)] at h
      rcases ivs.2.2.2 i hi with q | ⟨k, hk, q⟩
      · rw [q] at h
        have : isOfF (s.2 1) (nI t) n (-1) = false := by
          cases n with
          | zero => rw [isOfF]; exact decide_eq_false (fun z => nI_m1 ht z.symm)
          | succ n => rw [isOfF, if_pos (Or.inl rfl)]; exact decide_eq_false (fun z => nI_m1 ht z.symm)
        rw [this] at h
        cases h
      · rw [q] at h
        obtain ⟨a, b⟩ := isOf_up ivs ivi ht n k (by omega) h
        obtain ⟨c, d⟩ := ivi i hi k hk q
        exact ⟨Nat.le_trans a c, fun j hj => (d j (by omega)).trans (b j hj)⟩
theorem IvT.mk {s : Mem} (ivs : IvS s) (ivf : IvF s) (ivi : IvI s) (ivo : IvO s) (lt : LTy s) : IvT s := by
  intro o j f y ho hj k3 k4 k5 k6 hf hy i hi t ht et
  have n10 := ivs.2.1
  have hs := (ivo.2.2 o ho).2
  have n8 := (ivs.2.2.1 _ hs).2
  rcases ivf _ hs j hj with q | ⟨q, _⟩ | ⟨_, c, f', c5, hfj, e4, e5, _, e34, e4'⟩
  · rw [q] at k3; exact absurd k3 (by decide)
  · rcases q with q | q <;> (rw [q] at k3; exact absurd k3 (by decide))
  · have ec : c = 4 := nI_inj8 (b := 4) (by omega) (by omega) (e4.symm.trans k4)
    have ef : f' = f := nI_inj8 (by omega) (by omega) (e5.symm.trans k5)
    subst ec
    subst ef
    have hk2 := e34 (Or.inr rfl)
    obtain ⟨t', g', ht', et', hg', eg', kg'⟩ := e4' rfl
    have n8' := (ivs.2.2.1 _ ht').2
    have eg : g' = y := nI_inj8 (by omega) (by omega) (eg'.symm.trans k6)
    subst eg
    have := lt o ho f' (by omega) hk2 i hi t ht et
    rw [et'] at this
    obtain ⟨a, b⟩ := isOf_up ivs ivi (by omega) 10 _ (ivo.2.2 t ht).2 this
    exact ⟨by omega, by rw [b g' hg']; exact kg'⟩
theorem VOK.rw {s : Mem} {o f : Nat} (h : VOK s o f) {v : Int32} {P : Nat → Int32} (hv : s.2 10 (8 * o + f) = v) (hP : ∀ i, i < 6 → s.2 11 (6 * (8 * o + f) + i) = P i) : RwOK s o f v P := by
  refine ⟨fun k => by rw [← hv]; exact h.1 k, fun k => ?_⟩
  obtain ⟨n, h1, h2, h3⟩ := h.2 k
  refine ⟨n, h1, by rw [← hv]; exact h2, fun i hi => ?_⟩
  rw [← hP i (by omega)]
  exact h3 i hi
theorem RwOK.wV {s : Mem} {x : VP} {o f : Nat} {v : Int32} {P : Nat → Int32} (h : RwOK (wV s x) o f v P) : RwOK s o f v P := by
  unfold RwOK at *
  rw [wV_sh, wV_2 _ _ (by omega) (by omega), wV_nO] at h
  exact h
theorem StpE.ed {s : Mem} {e : Nat} {x y : VP} (h : StpE s e x y) (hx : IvV (wV s x)) (hy : IvV (wV s y)) : EdOK s e := by
  obtain ⟨o, f, ho, hf, hk, e17, _, _, a1, a2, a3⟩ := h
  refine ⟨o, f, ho, hf, hk, e17, RwOK.wV (x := x) (VOK.rw (hx o ho f (by rw [wV_sh, wV_nf]; exact hf)) (by rw [wV_10]; exact a1) (fun i hi => by rw [wV_11]; exact (a3 i hi).1)), RwOK.wV (x := y) (VOK.rw (hy o ho f (by rw [wV_sh, wV_nf]; exact hf)) (by rw [wV_10]; exact a2) (fun i hi => by rw [wV_11]; exact (a3 i hi).2))⟩
theorem Inv.a {n : Nat} {s : Mem} (h : Inv n s) (hn : n < 512) : IvA s := by
  obtain ⟨⟨ivs, ivf, ivi, ivk⟩, ivo, ivw, ivp, ⟨ivh, ivg, ivx, hE⟩, S, c⟩ := h
  obtain ⟨vv, lt, ac⟩ := c.now ivh
  have hg : gsz s ≤ nE s := by unfold gsz; split <;> omega
  have hd : IvD s := fun e he => (c.1 e he).ed (c.2.2 e (by omega)).1 (c.2.2 (e + 1) he).1
  have he : IvE s := fun e he => by
    obtain ⟨o, f, h1, h2, _, h3, _⟩ := hd e he
    exact ⟨o, f, h1, h2, h3⟩
  exact ⟨⟨⟨ivs.2.1, ivo.2.1, ivp.2.1, ivw.2.1⟩, ivs, ivo, ivf, vv, IvT.mk ivs ivf ivi ivo lt, ivw, ivh, ivx, by omega⟩, hd, he, ivg, ivk, ivp, ac, by omega⟩
/-! equal where it is looked at -/
theorem LTy.of {s t : Mem} (h : LTy s) (a8 : t.1 8 = s.1 8) (a1 : t.2 1 = s.2 1) (a2 : t.2 2 = s.2 2) (a3 : t.2 3 = s.2 3) (a4 : t.2 4 = s.2 4) (a9 : t.2 9 = s.2 9) (a10 : t.2 10 = s.2 10) (a11 : t.2 11 = s.2 11) : LTy t := by
  unfold LTy isOf nO nf sh at *
  rw [a8, a1, a2, a3, a4, a9, a10, a11]
  exact h
theorem Hd.of {s t : Mem} (a8 : t.1 8 = s.1 8) (a2 : t.2 2 = s.2 2) (a3 : t.2 3 = s.2 3) (a7 : t.2 7 = s.2 7) (a9 : t.2 9 = s.2 9) (a10 : t.2 10 = s.2 10) (a11 : t.2 11 = s.2 11) : Hd t = Hd s := by
  funext a b
  unfold Hd rowN rowF nO nf sh
  rw [a8, a2, a3, a7, a9, a10, a11]
/-- what the values are judged by -/
def EqV (s t : Mem) : Prop := t.1 8 = s.1 8 ∧ t.2 1 = s.2 1 ∧ t.2 2 = s.2 2 ∧ t.2 3 = s.2 3 ∧ t.2 4 = s.2 4 ∧ t.2 7 = s.2 7 ∧ t.2 9 = s.2 9
theorem OKV.of {s t : Mem} {x : VP} (h : OKV (wV s x)) (e : EqV s t) : OKV (wV t x) := by
  obtain ⟨a8, a1, a2, a3, a4, a7, a9⟩ := e
  have b : ∀ q, q ≠ 10 → q ≠ 11 → t.2 q = s.2 q → (wV t x).2 q = (wV s x).2 q := fun q q1 q2 e => by rw [wV_2 _ _ q1 q2, wV_2 _ _ q1 q2, e]
  have b10 : (wV t x).2 10 = (wV s x).2 10 := by rw [wV_10, wV_10]
  have b11 : (wV t x).2 11 = (wV s x).2 11 := by rw [wV_11, wV_11]
  refine ⟨h.1.of a8 (b 2 (by omega) (by omega) a2) (b 3 (by omega) (by omega) a3) (b 9 (by omega) (by omega) a9) b10 b11, h.2.1.of a8 (b 1 (by omega) (by omega) a1) (b 2 (by omega) (by omega) a2) (b 3 (by omega) (by omega) a3) (b 4 (by omega) (by omega) a4) (b 9 (by omega) (by omega) a9) b10 b11, ?_⟩
  rw [Hd.of (s := wV s x) (t := wV t x) a8 (b 2 (by omega) (by omega) a2) (b 3 (by omega) (by omega) a3) (b 7 (by omega) (by omega) a7) (b 9 (by omega) (by omega) a9) b10 b11]
  exact h.2.2
theorem ISh.of {s t : Mem} (h : ISh s) (a0 : t.1 0 = s.1 0) (a : ∀ q, 1 ≤ q → q ≤ 7 → t.2 q = s.2 q) : ISh t := by
  obtain ⟨h1, h2, h3, h4⟩ := h
  have a1 := a 1 (by omega) (by omega)
  have a2 := a 2 (by omega) (by omega)
  have a3 := a 3 (by omega) (by omega)
  have a7 := a 7 (by omega) (by omega)
  refine ⟨h1.of a0 a1 a2, h2.of a0 a2 a3 (a 4 (by omega) (by omega)) (a 5 (by omega) (by omega)) (a 6 (by omega) (by omega)), ?_, ?_⟩
  · unfold IvI nS nf at *
    rw [a0, a1, a2, a3]
    exact h3
  · unfold IvK nS nf at *
    rw [a0, a2, a3, a7]
    exact h4
theorem StpE.of {s t : Mem} {e e' : Nat} {x y : VP} (h : StpE s e x y) (hO : ObE s t) (e17 : t.2 17 e' = s.2 17 e) (hr : ∀ k, k < 7 → t.2 18 (7 * e' + k) = s.2 18 (7 * e + k) ∧ t.2 19 (7 * e' + k) = s.2 19 (7 * e + k)) : StpE t e' x y := by
  obtain ⟨o, f, h1, h2, h3, h4, h5, h6, h7, h8, h9⟩ := h
  obtain ⟨o1, o2, o3⟩ := hO o h1
  obtain ⟨f1, f2⟩ := o3 f h2
  have r0 := hr 0 (by omega)
  rw [Nat.add_zero, Nat.add_zero] at r0
  refine ⟨o, f, o1, by rw [o2]; exact f1, by rw [o2, f2]; exact h3, by rw [e17]; exact h4, h5, h6, by rw [r0.1]; exact h7, by rw [r0.2]; exact h8, fun k hk => ?_⟩
  have r1 := hr (1 + k) (by omega)
  rw [← Nat.add_assoc, ← Nat.add_assoc] at r1
  rw [r1.1, r1.2]
  exact h9 k hk
theorem Ch.of {s t : Mem} {S : Nat → VP} (h : Ch s S) (hO : ObE s t) (hE : EqV s t) (a10 : t.2 10 = s.2 10) (a11 : t.2 11 = s.2 11) (hH : HiE s t) : Ch t S := by
  obtain ⟨h1, h2, h3⟩ := h
  have f16 := hH.1 16 (by omega)
  have f20 := hH.1 20 (by omega)
  have f21 := hH.1 21 (by omega)
  have g22 := hH.2 22 (by omega)
  have eE : nE t = nE s := by unfold nE; rw [f16]
  have eE' : nE' t = nE' s := by unfold nE' dEnd nD nEn nE en; rw [f16, f20, f21, g22]
  refine ⟨fun e he => (h1 e (by omega)).of hO (by rw [hH.2 17 (by omega)]) (fun k _ => ⟨by rw [hH.2 18 (by omega)], by rw [hH.2 19 (by omega)]⟩), ?_, fun k hk => (h3 k (by omega)).of hE⟩
  rw [eE', h2]
  unfold cur
  rw [a10, a11]
theorem IHi.of {s t : Mem} {n m : Nat} (h : IHi n s) (hn : n ≤ m) (hH : HiE s t) : IHi m t := by
  obtain ⟨h1, h2, h3, h4⟩ := h
  have f16 := hH.1 16 (by omega)
  have f20 := hH.1 20 (by omega)
  have f21 := hH.1 21 (by omega)
  have f23 := hH.1 23 (by omega)
  have f24 := hH.1 24 (by omega)
  have g22 := hH.2 22 (by omega)
  refine ⟨h1.of f16 f20 f21 f23 g22, ?_, ?_, ?_⟩
  · unfold IvG gF at *
    rw [f24]
    exact h2
  · unfold IvX nE nEn nD gF enB en at *
    rw [f16, f20, f21, f23, f24, g22]
    exact h3
  · unfold nE at *
    rw [f16]
    omega
/-- a call that shows nothing, or only scratch -/
theorem Inv.sc {n : Nat} {s t : Mem} (h : Inv n s) (c : Sc s t) : Inv (n + 1) t := by
  obtain ⟨h1, h2, h3, h4, h5, S, h6⟩ := h
  refine ⟨h1.of (c.1 0 rfl) (fun q q1 q2 => c.2 q ?_), h2.of (c.1 0 rfl) (c.1 8 rfl) (c.2 9 rfl), h3.of (c.1 0 rfl) (c.1 25 rfl) (c.2 26 rfl) (c.2 27 rfl) (c.2 30 rfl), h4.of (c.1 33 rfl) (c.2 34 rfl) (c.2 35 rfl) (c.2 36 rfl) (c.1 0 rfl), h5.of (Nat.le_succ _) c.hi, S, h6.of c.ob ⟨c.1 8 rfl, c.2 1 rfl, c.2 2 rfl, c.2 3 rfl, c.2 4 rfl, c.2 7 rfl, c.2 9 rfl⟩ (c.2 10 rfl) (c.2 11 rfl) c.hi⟩
  rcases (show q = 1 ∨ q = 2 ∨ q = 3 ∨ q = 4 ∨ q = 5 ∨ q = 6 ∨ q = 7 by omega) with e | e | e | e | e | e | e <;> subst e <;> rfl
/-- the start -/
theorem Inv.zero : Inv 0 s0M := by
  have z : ∀ {i : Nat}, ¬ i < nS s0M := fun h => absurd h (Nat.not_lt_zero _)
  have y : ∀ {i : Nat}, ¬ i < nO s0M := fun h => absurd h (Nat.not_lt_zero _)
  refine ⟨⟨⟨rfl, Nat.zero_le _, fun i hi => absurd hi z, fun i hi => absurd hi z⟩, fun i hi => absurd hi z, fun i hi => absurd hi z, fun i j hi => absurd hi z⟩, ⟨rfl, Nat.zero_le _, fun o ho => absurd ho y⟩, ⟨rfl, Nat.zero_le _, fun w hw => absurd hw (Nat.not_lt_zero _)⟩, ⟨rfl, Nat.zero_le _, fun w hw => absurd hw (Nat.not_lt_zero _)⟩, ⟨⟨rfl, rfl, rfl, Nat.le_refl _, Nat.zero_le _, Or.inl rfl, by decide, fun k hk => absurd hk (Nat.not_lt_zero _), fun k hk => absurd hk (Nat.not_lt_zero _)⟩, ⟨rfl, by decide⟩, ⟨fun _ => rfl, fun h => absurd rfl h⟩, Nat.le_refl _⟩, fun _ => cur s0M, fun e he => absurd he (Nat.not_lt_zero _), rfl, fun k _ => ?_⟩
  rw [wV_cur]
  exact ⟨fun o ho => absurd ho y, fun o ho => absurd ho y, fun a b h => absurd h.1 y⟩
