/-! what holds what: edges, roads, and what the searches find -/
def Hd (s : Mem) (a b : Nat) : Prop := a < nO s ∧ b < nO s ∧ ∃ f, f < nf s (sh s a) ∧ (s.2 3 (8 * sh s a + f) = 1 ∨ s.2 3 (8 * sh s a + f) = 2) ∧ s.2 7 (8 * sh s a + f) &&& 4 = 0 ∧ ∃ i, i < rowN s a f ∧ rowF s a f i = nI b
/-- roads over any edges -/
def RT (E : Rel) (a b : Nat) : Prop := ∀ P : Nat → Prop, P a → (∀ x y, P x → E x y → P y) → P b
theorem RT.rf (E : Rel) (a : Nat) : RT E a a := fun _ h _ => h
theorem RT.st {E : Rel} {a b c : Nat} (h : RT E a b) (e : E b c) : RT E a c := fun P h1 h2 => h2 b c (h P h1 h2) e
theorem RT.tr {E : Rel} {a b c : Nat} (h : RT E a b) (k : RT E b c) : RT E a c := fun P h1 h2 => k P (h P h1 h2) h2
theorem RT.hd {E : Rel} {a b c : Nat} (e : E a b) (k : RT E b c) : RT E a c := ((RT.rf E a).st e).tr k
theorem RT.mo {E E' : Rel} {a b : Nat} (h : RT E a b) (he : ∀ x y, E x y → E' x y) : RT E' a b := fun P h1 h2 => h P h1 (fun x y hx e => h2 x y hx (he x y e))
theorem RT.cs {E : Rel} {a b : Nat} (h : RT E a b) : a = b ∨ ∃ c, E a c ∧ RT E c b := by
  refine h (fun y => a = y ∨ ∃ c, E a c ∧ RT E c y) (Or.inl rfl) (fun x y hx e => ?_)
  rcases hx with rfl | ⟨c, h1, h2⟩
  · exact Or.inr ⟨y, e, RT.rf _ _⟩
  · exact Or.inr ⟨c, h1, h2.st e⟩
def Acy (E : Rel) : Prop := ∀ a b, E a b → ¬ RT E b a
theorem Acy.mo {E E' : Rel} (h : Acy E) (he : ∀ x y, E' x y → E x y) : Acy E' := fun a b e r => h a b (he a b e) (r.mo he)
/-- one edge more, when there is no road back -/
theorem Acy.one {E E' : Rel} {o u : Nat} (h : Acy E) (he : ∀ x y, E' x y → E x y ∨ (x = o ∧ y = u)) (hn : ¬ RT E u o) : Acy E' := by
  have key : ∀ x y, RT E' x y → RT E x y ∨ (RT E x o ∧ RT E u y) := by
    intro x y r
    refine r (fun y => RT E x y ∨ (RT E x o ∧ RT E u y)) (Or.inl (RT.rf _ _)) (fun y z hy e => ?_)
    rcases he y z e with q | ⟨q1, q2⟩
    · exact hy.imp (fun w => w.st q) (fun w => ⟨w.1, w.2.st q⟩)
    · subst q1 q2
      rcases hy with w | w
      · exact Or.inr ⟨w, RT.rf _ _⟩
      · exact Or.inr ⟨w.1, RT.rf _ _⟩
  intro a b e r
  rcases he a b e with q | ⟨q1, q2⟩
  · rcases key b a r with w | ⟨w1, w2⟩
    · exact h a b q w
    · exact hn ((w2.st q).tr w1)
  · subst q1 q2
    rcases key b a r with w | ⟨w1, _⟩
    · exact hn w
    · exact hn w1
def pl (b : Bf) (t : Nat) : Prop := b.2.2 t ≠ -1
/-- from b to c just those of S have come more -/
def Ex (N : Nat) (b c : Bf) (S : Nat → Prop) : Prop := b.1 ≤ c.1 ∧ (∀ k, k < b.1 → c.2.1 k = b.2.1 k) ∧ (∀ t, t < N → pl b t → c.2.2 t = b.2.2 t) ∧ ∀ t, t < N → (pl c t ↔ pl b t ∨ S t)
theorem Ex.rf (N : Nat) (b : Bf) : Ex N b b (fun _ => False) := ⟨Nat.le_refl _, fun _ _ => rfl, fun _ _ _ => rfl, fun t _ => ⟨fun h => Or.inl h, fun h => h.elim id (fun q => q.elim)⟩⟩
theorem Ex.im {N : Nat} {b c : Bf} {S S' : Nat → Prop} (h : Ex N b c S) (e : ∀ t, t < N → (S t ↔ S' t)) : Ex N b c S' := ⟨h.1, h.2.1, h.2.2.1, fun t ht => (h.2.2.2 t ht).trans (or_congr_right (e t ht))⟩
theorem Ex.kp {N : Nat} {b c : Bf} {S : Nat → Prop} (h : Ex N b c S) {t : Nat} (ht : t < N) (q : pl b t) : pl c t := (h.2.2.2 t ht).mpr (Or.inl q)
theorem Ex.tr {N : Nat} {b c d : Bf} {S S' : Nat → Prop} (h : Ex N b c S) (k : Ex N c d S') : Ex N b d (fun t => S t ∨ S' t) := by
  refine ⟨Nat.le_trans h.1 k.1, fun i hi => (k.2.1 i (Nat.lt_of_lt_of_le hi h.1)).trans (h.2.1 i hi), fun t ht q => (k.2.2.1 t ht (h.kp ht q)).trans (h.2.2.1 t ht q), fun t ht => ?_⟩
  rw [k.2.2.2 t ht, h.2.2.2 t ht]
  exact or_assoc
theorem Ex.add {N : Nat} (hN : N < 1000) {b : Bf} (hb : bOK N b) {v : Int32} (hv : v = MISS ∨ ∃ t, t < N ∧ v = nI t) : Ex N b (bAdd b v) (fun t => v = nI t) := by
  rcases hv with e | ⟨x, hx, e⟩
  · subst e
    rw [bAdd_no (Or.inl rfl)]
    exact (Ex.rf N b).im (fun t ht => ⟨fun q => q.elim, fun q => absurd q.symm (nI_miss (by omega))⟩)
  · subst e
    by_cases q : b.2.2 x = -1
    · have hle := hb.le hN
      rw [bAdd_yes (by omega) (nI_miss (by omega)) q]
      refine ⟨Nat.le_succ _, fun k hk => pk_un (by omega), fun t ht w => pk_un (fun z => w (by rw [z]; exact q)), fun t ht => ?_⟩
      unfold pl
      dsimp only
      by_cases z : t = x
      · subst z
        rw [pk_us]
        exact ⟨fun _ => Or.inr rfl, fun _ => nI_m1 (by omega)⟩
      · rw [pk_un z]
        exact ⟨fun w => Or.inl w, fun w => w.elim id (fun w => absurd (nI_inj8 (by omega) (by omega) w).symm z)⟩
    · rw [bAdd_no (Or.inr (by rw [cl x (by omega)]; exact q))]
      refine ⟨Nat.le_refl _, fun _ _ => rfl, fun _ _ _ => rfl, fun t ht => ⟨fun w => Or.inl w, fun w => w.elim id (fun w => ?_)⟩⟩
      rw [← nI_inj8 (by omega) (by omega) w]
      exact q
theorem Ex.all {N : Nat} (hN : N < 1000) {b : Bf} (hb : bOK N b) {F : Nat → Int32} : ∀ n, InN N n F → Ex N b (bAll b F n) (fun t => ∃ i, i < n ∧ F i = nI t)
  | 0, _ => (Ex.rf N b).im (fun t _ => ⟨fun q => q.elim, fun ⟨i, h, _⟩ => absurd h (by omega)⟩)
  | n + 1, h => by
    have h1 := Ex.all hN hb n (fun i hi => h i (by omega))
    have h2 := Ex.add hN (bAll_ok hN hb n (fun i hi => h i (by omega))) (h n (by omega))
    refine (h1.tr h2).im (fun t _ => ⟨fun q => ?_, fun ⟨i, q1, q2⟩ => ?_⟩)
    · rcases q with ⟨i, q1, q2⟩ | q
      · exact ⟨i, by omega, q2⟩
      · exact ⟨n, by omega, q⟩
    · by_cases z : i = n
      · subst z; exact Or.inr q2
      · exact Or.inl ⟨i, by omega, q2⟩
theorem Ex.fld {s : Mem} (ivo : IvO s) (ivv : IvV s) {o : Nat} (ho : o < nO s) {b : Bf} (hb : bOK (nO s) b) : ∀ n, n ≤ nf s (sh s o) → Ex (nO s) b (bFld s o b n) (fun t => ∃ f, f < n ∧ (s.2 3 (8 * sh s o + f) = 1 ∨ s.2 3 (8 * sh s o + f) = 2) ∧ s.2 7 (8 * sh s o + f) &&& 4 = 0 ∧ ∃ i, i < rowN s o f ∧ rowF s o f i = nI t)
  | 0, _ => (Ex.rf _ b).im (fun t _ => ⟨fun q => q.elim, fun ⟨i, h, _⟩ => absurd h (by omega)⟩)
  | n + 1, hn => by
    have n60 := ivo.2.1
    have h1 := Ex.fld ivo ivv ho hb n (by omega)
    by_cases hk : (s.2 3 (8 * sh s o + n) = 1 ∨ s.2 3 (8 * sh s o + n) = 2) ∧ s.2 7 (8 * sh s o + n) &&& 4 = 0
    · rw [bFld_s hk.1 hk.2]
      have h2 := Ex.all (by omega) (bFld_ok ivo ivv ho hb n (by omega)) _ (row_in ivv ho (by omega) hk.1).1
      refine (h1.tr h2).im (fun t _ => ⟨fun q => ?_, fun ⟨f, q1, q2⟩ => ?_⟩)
      · rcases q with ⟨f, q1, q2⟩ | q
        · exact ⟨f, by omega, q2⟩
        · exact ⟨n, by omega, hk.1, hk.2, q⟩
      · by_cases z : f = n
        · subst z; exact Or.inr q2.2.2
        · exact Or.inl ⟨f, by omega, q2⟩
    · rw [bFld_n hk]
      refine h1.im (fun t _ => ⟨fun ⟨f, q1, q2⟩ => ⟨f, by omega, q2⟩, fun ⟨f, q1, q2⟩ => ⟨f, ?_, q2⟩⟩)
      have : f ≠ n := fun z => hk (by rw [← z]; exact ⟨q2.1, q2.2.1⟩)
      omega
theorem Ex.held {s : Mem} (ivo : IvO s) (ivv : IvV s) {o : Nat} (ho : o < nO s) {b : Bf} (hb : bOK (nO s) b) : Ex (nO s) b (bHeld s o b) (Hd s o) :=
  (Ex.fld ivo ivv ho hb _ (Nat.le_refl _)).im (fun t ht => ⟨fun q => ⟨ho, ht, q⟩, fun q => q.2.2⟩)
/-- what a search comes to -/
theorem loop_ex {s : Mem} (ivo : IvO s) (ivv : IvV s) : ∀ (n k : Nat) (b : Bf), bOK (nO s) b → 60 ≤ k + n → (∀ j, j < k → j < b.1 → ∀ x, b.2.1 j = nI x → x < nO s → ∀ t, Hd s x t → pl b t) →
    (∃ S, Ex (nO s) b (bLoop s n k b) S) ∧ (∀ x, x < nO s → pl (bLoop s n k b) x → ∀ t, Hd s x t → pl (bLoop s n k b) t) ∧ ∀ P : Nat → Prop, (∀ x y, P x → Hd s x y → P y) → (∀ t, t < nO s → pl b t → P t) → ∀ t, t < nO s → pl (bLoop s n k b) t → P t := by
  have n60 := ivo.2.1
  have fin : ∀ (k : Nat) (b : Bf), bOK (nO s) b → b.1 ≤ k → (∀ j, j < k → j < b.1 → ∀ x, b.2.1 j = nI x → x < nO s → ∀ t, Hd s x t → pl b t) → ∀ x, x < nO s → pl b x → ∀ t, Hd s x t → pl b t := by
    intro k b hb hk hc x hx hp t ht
    obtain ⟨j, h1, h2, h3⟩ := (hb.2 x hx).resolve_left hp
    exact hc j (by omega) h1 x h3 hx t ht
  intro n
  induction n with
  | zero =>
    intro k b hb hk hc
    have hle := hb.le (by omega)
    exact ⟨⟨_, Ex.rf _ b⟩, fin k b hb (by omega) hc, fun P _ h2 => h2⟩
  | succ n ih =>
    intro k b hb hk hc
    by_cases q : k < b.1
    · rw [bLoop_y q]
      obtain ⟨x, hx, ex, _⟩ := hb.1 k q
      rw [ex, cl x (by omega)]
      have hE := Ex.held ivo ivv hx hb
      have hb1 : bOK (nO s) (bHeld s x b) := bFld_ok ivo ivv hx hb _ (Nat.le_refl _)
      obtain ⟨⟨S, r1⟩, r2, r3⟩ := ih (k + 1) (bHeld s x b) hb1 (by omega) (fun j hj hj2 y ey hy t ht => by
        by_cases z : j = k
        · subst z
          rw [hE.2.1 j q, ex] at ey
          exact (hE.2.2.2 t ht.2.1).mpr (Or.inr (by rw [nI_inj8 (by omega) (by omega) ey]; exact ht))
        · rw [hE.2.1 j (by omega)] at ey
          exact hE.kp ht.2.1 (hc j (by omega) (by omega) y ey hy t ht))
      refine ⟨⟨_, hE.tr r1⟩, r2, fun P h1 h2 => r3 P h1 (fun t ht hp => ?_)⟩
      rcases (hE.2.2.2 t ht).mp hp with w | w
      · exact h2 t ht w
      · refine h1 x t (h2 x hx ?_) w
        obtain ⟨x', _, e', p'⟩ := hb.1 k q
        rw [ex] at e'
        have : x' < nO s := by assumption
        rw [nI_inj8 (by omega) (by omega) e']
        unfold pl
        rw [p']
        have := hb.le (by omega)
        exact nI_m1 (by omega)
    · rw [bLoop_n q]
      exact ⟨⟨_, Ex.rf _ b⟩, fin k b hb (by omega) hc, fun P _ h2 => h2⟩
theorem start_pl (s : Mem) {t : Nat} (ht : t < nO s) : ¬ pl (bStart s) t := fun h => h (by simp [bStart, clr, ht])
theorem find_iff {s : Mem} (ivo : IvO s) (ivv : IvV s) {o : Nat} (ho : o < nO s) : (∀ t, t < nO s → (pl (findB s o) t ↔ RT (Hd s) o t)) ∧ (findB s o).2.2 o = nI 0 ∧ (findB s o).2.1 0 = nI o ∧ 0 < (findB s o).1 := by
  have n60 := ivo.2.1
  have hb : bOK (nO s) (bAdd (bStart s) (nI o)) := (bStart_ok s).add (by omega) (Or.inr ⟨o, ho, rfl⟩)
  have hE := Ex.add (N := nO s) (by omega) (bStart_ok s) (v := nI o) (Or.inr ⟨o, ho, rfl⟩)
  obtain ⟨⟨S, r1⟩, r2, r3⟩ := loop_ex ivo ivv 61 0 _ hb (by omega) (fun j hj => by omega)
  have h0 : bAdd (bStart s) (nI o) = (1, upd (s.2 13) 0 (nI o), upd (clr s (nO s)) o (nI 0)) := by
    rw [bAdd_yes (by omega) (nI_miss (by omega)) (by simp [bStart, clr, ho])]
    rfl
  have po : pl (bAdd (bStart s) (nI o)) o := (hE.2.2.2 o ho).mpr (Or.inr rfl)
  refine ⟨fun t ht => ⟨fun h => ?_, fun h => ?_⟩, ?_, ?_, ?_⟩
  · refine r3 (RT (Hd s) o) (fun x y hx e => hx.st e) (fun t ht h => ?_) t ht h
    rcases (hE.2.2.2 t ht).mp h with w | w
    · exact absurd w (start_pl s ht)
    · rw [nI_inj8 (by omega) (by omega) w]; exact RT.rf _ _
  · have := h (fun y => y < nO s ∧ pl (findB s o) y) ⟨ho, r1.kp ho po⟩ (fun x y hx e => ⟨e.2.1, r2 x hx.1 hx.2 y e⟩)
    exact this.2
  · have := r1.2.2.1 o ho po
    rw [h0] at this
    unfold findB
    rw [h0, this]
    exact (pk_us : upd (clr s (nO s)) o (nI 0) o = nI 0)
  · have := r1.2.1 0 (by rw [h0]; exact Nat.zero_lt_one)
    rw [h0] at this
    unfold findB
    rw [h0, this]
    exact (pk_us : upd (s.2 13) 0 (nI o) 0 = nI o)
  · have := r1.1
    rw [h0] at this
    unfold findB
    rw [h0]
    exact this
theorem held_iff {s : Mem} (ivo : IvO s) (ivv : IvV s) {o : Nat} (ho : o < nO s) {t : Nat} (ht : t < nO s) : pl (heldB s o) t ↔ ∃ c, Hd s o c ∧ RT (Hd s) c t := by
  have n60 := ivo.2.1
  have hb : bOK (nO s) (bHeld s o (bStart s)) := bFld_ok ivo ivv ho (bStart_ok s) _ (Nat.le_refl _)
  have hE := Ex.held ivo ivv ho (bStart_ok s)
  obtain ⟨⟨S, r1⟩, r2, r3⟩ := loop_ex ivo ivv 61 0 _ hb (by omega) (fun j hj => by omega)
  refine ⟨fun h => ?_, fun ⟨c, h1, h2⟩ => ?_⟩
  · refine r3 (fun t => ∃ c, Hd s o c ∧ RT (Hd s) c t) (fun x y ⟨c, q1, q2⟩ e => ⟨c, q1, q2.st e⟩) (fun t ht h => ?_) t ht h
    rcases (hE.2.2.2 t ht).mp h with w | w
    · exact absurd w (start_pl s ht)
    · exact ⟨t, w, RT.rf _ _⟩
  · have := h2 (fun y => y < nO s ∧ pl (heldB s o) y) ⟨h1.2.1, r1.kp h1.2.1 ((hE.2.2.2 c h1.2.1).mpr (Or.inr h1))⟩ (fun x y hx e => ⟨e.2.1, r2 x hx.1 hx.2 y e⟩)
    exact this.2
/-- the class looks for a place above 0, the reference for what is held -/
theorem hol_eq {s : Mem} (ivo : IvO s) (ivv : IvV s) (ac : Acy (Hd s)) {o u : Nat} (ho : o < nO s) (hu' : u < nO s) : (0 < (findB s o).2.2 u) ↔ (heldB s o).2.2 u ≠ -1 := by
  have n60 := ivo.2.1
  obtain ⟨f1, f2, f3, f4⟩ := find_iff ivo ivv ho
  have hb := findB_ok ivo ivv o ho
  have hle := hb.le (by omega)
  have k1 : (heldB s o).2.2 u ≠ -1 ↔ ∃ c, Hd s o c ∧ RT (Hd s) c u := held_iff ivo ivv ho hu'
  rw [k1]
  refine ⟨fun h => ?_, fun ⟨c, h1, h2⟩ => ?_⟩
  · have hp : pl (findB s o) u := fun e => by rw [e] at h; exact absurd h (by decide)
    rcases ((f1 u hu').mp hp).cs with z | z
    · subst z
      rw [f2] at h
      exact absurd h (by decide)
    · exact z
  · have hne : u ≠ o := fun e => by rw [e] at h2; exact ac o c h1 h2
    have hp : pl (findB s o) u := (f1 u hu').mpr (RT.hd h1 h2)
    obtain ⟨k, q1, q2, q3⟩ := (hb.2 u hu').resolve_left hp
    rw [q2]
    have hk : k ≠ 0 := fun z => by
      subst z
      rw [f3] at q3
      exact hne (nI_inj8 (by omega) (by omega) q3).symm
    exact nI_lt (a := 0) (by omega) (by omega)
theorem loop_eq {s : Mem} (ivo : IvO s) (ivv : IvV s) {o x u : Nat} (ho : o < nO s) (hu' : u < nO s) : loopC s o x u ↔ loopM s o x u := by
  unfold loopC loopM
  have k1 : (heldB s u).2.2 o ≠ -1 ↔ ∃ c, Hd s u c ∧ RT (Hd s) c o := held_iff ivo ivv hu' ho
  have k2 : (findB s u).2.2 o ≠ -1 ↔ RT (Hd s) u o := (find_iff ivo ivv hu').1 o ho
  rw [k1, k2]
  refine and_congr_right (fun _ => ⟨fun h => ?_, fun h => ?_⟩)
  · exact h.cs.imp Eq.symm id
  · rcases h with rfl | ⟨c, h1, h2⟩
    · exact RT.rf _ _
    · exact RT.hd h1 h2
