/-! alike of the class -/
theorem RLr.sy {N : Nat} {l : Prop} {Q : Rel} {n1 n2 : Nat} {F1 F2 : Nat → Int32} (hs : ∀ x y, Q x y → Q y x) (h : RLr N l Q n1 n2 F1 F2) : RLr N l Q n2 n1 F2 F1 := by
  refine ⟨h.1.symm, fun i hi => ?_⟩
  rcases h.2 i (by rw [h.1]; exact hi) with z | ⟨w, x, y, a1, a2, a3, a4, a5⟩
  · exact Or.inl z.symm
  · exact Or.inr ⟨w, y, x, a2, a1, a4, a3, hs x y a5⟩
theorem RLr.tr {N : Nat} {l : Prop} {Q : Rel} {n1 n2 n3 : Nat} {F1 F2 F3 : Nat → Int32} (hN : N ≤ 60) (ht : ∀ x y z, Q x y → Q y z → Q x z) (h : RLr N l Q n1 n2 F1 F2) (k : RLr N l Q n2 n3 F2 F3) : RLr N l Q n1 n3 F1 F3 := by
  refine ⟨h.1.trans k.1, fun i hi => ?_⟩
  rcases h.2 i hi with z | ⟨w, x, y, a1, a2, a3, a4, a5⟩
  · rw [z]
    exact k.2 i (by rw [← h.1]; exact hi)
  · rcases k.2 i (by rw [← h.1]; exact hi) with z' | ⟨_, x', y', b1, b2, b3, b4, b5⟩
    · exact Or.inr ⟨w, x, y, a1, a2, a3, by rw [← z']; exact a4, a5⟩
    · rw [a4] at b3
      have e := nI_inj8 (by omega) (by omega) b3
      exact Or.inr ⟨w, x, y', a1, b2, a3, b4, ht x y y' a5 (by rw [e]; exact b5)⟩
theorem LK.eqv {s : Mem} {Q : Rel} (hN : nO s ≤ 60) (hQ : Eqv Q) : Eqv (LK s Q) := by
  refine ⟨fun x => ⟨rfl, fun f _ => ⟨rfl, fun i _ => Or.inl rfl⟩⟩, fun x y h => ?_, fun x y z h k => ?_⟩
  · have es : sh s y = sh s x := by unfold sh; rw [h.1]
    refine ⟨h.1.symm, fun f hf => ?_⟩
    rw [es] at hf ⊢
    exact (h.2 f hf).sy hQ.2.1
  · have es : sh s y = sh s x := by unfold sh; rw [h.1]
    refine ⟨h.1.trans k.1, fun f hf => ?_⟩
    have k2 := k.2 f (by rw [es]; exact hf)
    rw [es] at k2
    exact (h.2 f hf).tr hN hQ.2.2 k2
theorem prsF_mem {s : Mem} {a b : Nat} {p : Pr2} : ∀ n, p ∈ prsF s a b n ↔ ∃ f, f < n ∧ p ∈ fldP s a b f
  | 0 => ⟨fun h => by simp [prsF] at h, fun ⟨f, h, _⟩ => absurd h (by omega)⟩
  | n + 1 => by
    rw [prsF, List.mem_append, prsF_mem n]
    refine ⟨fun h => ?_, fun ⟨f, h1, h2⟩ => ?_⟩
    · rcases h with ⟨f, h1, h2⟩ | h
      · exact ⟨f, by omega, h2⟩
      · exact ⟨n, by omega, h⟩
    · by_cases z : f = n
      · subst z; exact Or.inr h2
      · exact Or.inl ⟨f, by omega, h2⟩
/-- a field at which two objects are alike, in both forms -/
theorem fld_iff {s : Mem} (ivo : IvO s) (ivf : IvF s) (ivv : IvV s) {a b f : Nat} (ha : a < nO s) (hb : b < nO s) (he : s.2 9 a = s.2 9 b) (hf : f < nf s (sh s a)) {Q : Rel} (hQ : ∀ x, Q x x) : RLr (nO s) (s.2 3 (8 * sh s a + f) = 1 ∨ s.2 3 (8 * sh s a + f) = 2) Q (rowN s a f) (rowN s b f) (rowF s a f) (rowF s b f) ↔ (fldK s a b f ∧ ∀ p, p ∈ fldP s a b f → Q p.1 p.2) := by
  have n60 := ivo.2.1
  have es : sh s b = sh s a := by unfold sh; rw [he]
  have va := ivv a ha f hf
  have vb := ivv b hb f (by rw [es]; exact hf)
  unfold VOK at va vb
  rw [es] at vb
  unfold RLr rowN rowF rwN rwF fldK fldP
  rw [es]
  have kk : s.2 3 (8 * sh s a + f) = 0 ∨ s.2 3 (8 * sh s a + f) = 1 ∨ s.2 3 (8 * sh s a + f) = 2 ∨ s.2 3 (8 * sh s a + f) = 3 := by
    rcases ivf _ (ivo.2.2 a ha).2 f hf with y | ⟨y | y, _⟩ | ⟨y, _⟩
    · exact Or.inl y
    · exact Or.inr (Or.inl y)
    · exact Or.inr (Or.inr (Or.inl y))
    · exact Or.inr (Or.inr (Or.inr y))
  generalize s.2 3 (8 * sh s a + f) = k at va vb kk ⊢
  generalize s.2 10 (8 * a + f) = v at va ⊢
  generalize s.2 10 (8 * b + f) = w at vb ⊢
  rcases kk with rfl | rfl | rfl | rfl
  · refine ⟨fun h => ⟨?_, fun p hp => ?_⟩, fun h => ⟨by rw [if_neg (by decide), if_neg (by decide), if_neg (by decide)], fun i hi => ?_⟩⟩
    · rw [if_neg (by decide)]
      rcases h.2 0 (by rw [if_neg (by decide), if_neg (by decide)]; decide) with z | ⟨z, _⟩
      · exact Or.inr z
      · exact z.elim (fun q => absurd q (by decide)) (fun q => absurd q (by decide))
    · rw [if_neg (by decide), if_neg (by decide)] at hp
      cases hp
    · left
      rw [if_neg (by decide), if_neg (by decide)]
      have h1 := h.1
      rw [if_neg (by decide)] at h1
      exact h1.resolve_left (by decide)
  · have va1 := va.1 rfl
    have vb1 := vb.1 rfl
    refine ⟨fun h => ?_, fun h => ⟨by rw [if_neg (by decide), if_neg (by decide), if_neg (by decide)], fun i hi => ?_⟩⟩
    · have h0 := h.2 0 (by rw [if_neg (by decide), if_neg (by decide)]; decide)
      rw [if_neg (by decide), if_neg (by decide)] at h0
      rw [if_pos rfl, if_pos rfl]
      rcases h0 with z | ⟨_, x, y, a1, a2, a3, a4, a5⟩
      · subst z
        refine ⟨Iff.rfl, fun p hp => ?_⟩
        split at hp
        · cases hp
        · rw [List.mem_singleton] at hp
          subst hp
          exact hQ _
      · have q1 : ¬ v = MISS := by rw [a3]; exact nI_miss (by omega)
        have q2 : ¬ w = MISS := by rw [a4]; exact nI_miss (by omega)
        refine ⟨⟨fun z => absurd z q1, fun z => absurd z q2⟩, fun p hp => ?_⟩
        rw [if_neg q1, List.mem_singleton] at hp
        subst hp
        dsimp only
        rw [a3, a4, cl x (by omega), cl y (by omega)]
        exact a5
    · rw [if_pos rfl, if_pos rfl] at h
      rw [if_neg (by decide), if_neg (by decide)]
      by_cases z : v = MISS
      · left
        rw [z, h.1.mp z]
      · right
        obtain ⟨x, hx, ex⟩ := va1.resolve_left z
        obtain ⟨y, hy, ey⟩ := vb1.resolve_left (fun q => z (h.1.mpr q))
        have := h.2 (v.toNatClampNeg, w.toNatClampNeg) (by rw [if_neg z]; exact List.mem_singleton.mpr rfl)
        dsimp only at this
        rw [ex, ey, cl x (by omega), cl y (by omega)] at this
        exact ⟨Or.inl rfl, x, y, hx, hy, ex, ey, this⟩
  · obtain ⟨n, n6, en, pn⟩ := va.2 rfl
    obtain ⟨m, m6, em, pm⟩ := vb.2 rfl
    subst en em
    rw [if_pos rfl, if_pos rfl, if_neg (by decide), if_neg (by decide), if_pos rfl, cl n (by omega), cl m (by omega)]
    refine ⟨fun h => ⟨Or.inr (by rw [h.1]), fun p hp => ?_⟩, fun h => ?_⟩
    · obtain ⟨i, hi, rfl⟩ := List.mem_map.mp hp
      rw [List.mem_range] at hi
      obtain ⟨x, hx, ex⟩ := pn i hi
      obtain ⟨y, hy, ey⟩ := pm i (by rw [← h.1]; exact hi)
      dsimp only
      rw [ex, ey, cl x (by omega), cl y (by omega)]
      have h2 := h.2 i hi
      rw [if_pos rfl, if_pos rfl] at h2
      dsimp only at h2
      rw [ex, ey] at h2
      rcases h2 with z | ⟨_, x', y', a1, a2, a3, a4, a5⟩
      · rw [nI_inj8 (by omega) (by omega) z]; exact hQ _
      · rw [nI_inj8 (by omega) (by omega) a3, nI_inj8 (by omega) (by omega) a4]; exact a5
    · have e0 := h.1.resolve_left (by decide)
      have e1 : n = m := nI_inj8 (by omega) (by omega) e0
      refine ⟨e1, fun i hi => Or.inr ?_⟩
      rw [if_pos rfl, if_pos rfl]
      obtain ⟨x, hx, ex⟩ := pn i hi
      obtain ⟨y, hy, ey⟩ := pm i (by rw [← e1]; exact hi)
      have := h.2 _ (List.mem_map.mpr ⟨i, List.mem_range.mpr hi, rfl⟩)
      dsimp only at this
      rw [ex, ey, cl x (by omega), cl y (by omega)] at this
      exact ⟨Or.inr rfl, x, y, hx, hy, ex, ey, this⟩
  · refine ⟨fun h => ⟨?_, fun p hp => ?_⟩, fun h => ⟨by rw [if_neg (by decide), if_pos rfl, if_neg (by decide)], fun i hi => ?_⟩⟩
    · rw [if_neg (by decide)]
      exact Or.inl rfl
    · rw [if_neg (by decide), if_neg (by decide)] at hp
      cases hp
    · rw [if_neg (by decide), if_pos rfl] at hi
      omega
theorem LK_iff {s : Mem} (ivo : IvO s) (ivf : IvF s) (ivv : IvV s) {a b : Nat} (ha : a < nO s) (hb : b < nO s) {Q : Rel} (hQ : ∀ x, Q x x) : LK s Q a b ↔ (likeP s a b ∧ ∀ p, p ∈ prsF s a b (nf s (sh s a)) → Q p.1 p.2) := by
  refine ⟨fun h => ⟨⟨h.1, fun f hf => ((fld_iff ivo ivf ivv ha hb h.1 hf hQ).mp (h.2 f hf)).1⟩, fun p hp => ?_⟩, fun h => ⟨h.1.1, fun f hf => (fld_iff ivo ivf ivv ha hb h.1.1 hf hQ).mpr ⟨h.1.2 f hf, fun p hp => h.2 p ((prsF_mem _).mpr ⟨f, hf, hp⟩)⟩⟩⟩
  obtain ⟨f, hf, hp⟩ := (prsF_mem _).mp hp
  exact ((fld_iff ivo ivf ivv ha hb h.1 hf hQ).mp (h.2 f hf)).2 p hp
/-- an equivalence that goes on -/
def Bis (s : Mem) (o u : Nat) (E : Rel) : Prop := Eqv E ∧ E o u ∧ ∀ a b, E a b → LK s E a b
theorem Alk.bis {s : Mem} (ivs : IvS s) (ivo : IvO s) (ivf : IvF s) (ivv : IvV s) {o u : Nat} (ho : o < nO s) (hu' : u < nO s) (h : Alk s o u) : ∃ E, Bis s o u E := by
  obtain ⟨R, r1, r2⟩ := h
  have n60 := ivo.2.1
  have hE : Eqv (fun a b => ∀ E' : Rel, Eqv E' → (∀ x y, x < nO s → y < nO s → R x y → E' x y) → E' a b) := ⟨fun x E' e _ => e.1 x, fun x y h E' e r => e.2.1 x y (h E' e r), fun x y z h k E' e r => e.2.2 x y z (h E' e r) (k E' e r)⟩
  refine ⟨fun a b => ∀ E' : Rel, Eqv E' → (∀ x y, x < nO s → y < nO s → R x y → E' x y) → E' a b, hE, fun E' e r => r o u ho hu' r1, fun a b h => ?_⟩
  refine h _ (LK.eqv n60 hE) (fun x y hx hy hr => ?_)
  by_cases z : x = y
  · subst z
    exact (LK.eqv n60 hE).1 x
  · obtain ⟨q1, q2⟩ := r2 x y hr z
    refine (LK_iff ivo ivf ivv hx hy hE.1).mpr ⟨q1, fun p hp E' e r => ?_⟩
    have := prsF_ok ivs ivo ivv hx hy q1 _ (Nat.le_refl _) hp
    exact r _ _ this.1 this.2 (q2 p hp)
theorem bis.alk {s : Mem} (ivs : IvS s) (ivo : IvO s) (ivf : IvF s) (ivv : IvV s) {o u : Nat} (ho : o < nO s) (hu' : u < nO s) {E : Rel} (hE : Eqv E) (e1 : E o u) (e2 : ∀ a b, a < nO s → b < nO s → E a b → LK s E a b) : Alk s o u := by
  refine ⟨fun a b => a < nO s ∧ b < nO s ∧ E a b, ⟨ho, hu', e1⟩, fun a b ⟨ha, hb, h⟩ _ => ?_⟩
  obtain ⟨q1, q2⟩ := (LK_iff ivo ivf ivv ha hb hE.1).mp (e2 a b ha hb h)
  refine ⟨q1, fun p hp => ?_⟩
  have := prsF_ok ivs ivo ivv ha hb q1 _ (Nat.le_refl _) hp
  exact ⟨this.1, this.2, q2 p hp⟩
theorem LK.mo {s : Mem} {Q Q' : Rel} {a b : Nat} (hN : nO s ≤ 60) (h : LK s Q a b) (hq : ∀ x y, x < 60 → y < 60 → Q x y → Q' x y) : LK s Q' a b := ⟨h.1, fun f hf => (h.2 f hf).mo hN hq⟩
theorem PIv.le {N : Nat} {P : Pj} (H : PIv N P) : P.1 ≤ 60 := by
  obtain ⟨⟨m, m1, m2⟩, _⟩ := H
  exact php 60 P.1 m (fun i hi => (m1 i hi).1) m2
theorem alk_next {s : Mem} {P P' : Pj} {k x y : Nat} (n60 : nO s ≤ 60) (hM : Mo P P') (hlt : k < P.1) (eL : pjL P k = x) (eR : pjR P k = y) (hd : ∀ j, j < k → j < P.1 → LK s (FE P) (pjL P j) (pjR P j)) (hxy : LK s (FE P') x y) : ∀ j, j < k + 1 → j < P'.1 → LK s (FE P') (pjL P' j) (pjR P' j) := by
  intro j hj hj'
  by_cases z : j < k
  · have q := hM.2.2 j (by omega)
    have e1 : pjL P' j = pjL P j := by unfold pjL; rw [q.1]
    have e2 : pjR P' j = pjR P j := by unfold pjR; rw [q.2]
    rw [e1, e2]
    exact (hd j z (by omega)).mo n60 hM.1
  · have ejk : j = k := by omega
    have q := hM.2.2 k hlt
    have e1 : pjL P' j = x := by rw [← eL, ejk]; unfold pjL; rw [q.1]
    have e2 : pjR P' j = y := by rw [← eR, ejk]; unfold pjR; rw [q.2]
    rw [e1, e2]
    exact hxy
theorem lp_alk (G : Gk) {g : Gm} {h0 : Hp} {s : Mem} {o u : Nat} {v w : Int32} (R : RB g h0 s) (hm : Sm s) (ivs : IvS s) (ivo : IvO s) (ivf : IvF s) (ivv : IvV s) (ho : o < nO s) (hu' : u < nO s) : ∀ (c k : Nat) (h : Hp) (P : Pj), k + c = 60 → PaR h (g.2 12) (g.2 13) (g.2 14) (g.2 15) P → Fr4 h0 (g.2 12) (g.2 13) (g.2 14) (g.2 15) h → PIv (nO s) P → FE P o u → (∀ j, j < k → j < P.1 → LK s (FE P) (pjL P j) (pjR P j)) → (∀ E, Bis s o u E → InE P E) →
    V G fe_alike (pI fun r h' => r = b01 (Alk s o u) ∧ RB g h' s ∧ Stq g h0 nSc g h') h 0 0 37 [some (.ref (g.2 2)), some (.int v), some (.int w), some (.int (nI k))] [] := by
  have n60 := ivo.2.1
  have fin : ∀ (k : Nat) (h : Hp) (P : Pj), PaR h (g.2 12) (g.2 13) (g.2 14) (g.2 15) P → Fr4 h0 (g.2 12) (g.2 13) (g.2 14) (g.2 15) h → PIv (nO s) P → FE P o u → (∀ j, j < k → j < P.1 → LK s (FE P) (pjL P j) (pjR P j)) → P.1 ≤ k → (1 : Int32) = b01 (Alk s o u) ∧ RB g h s ∧ Stq g h0 nSc g h := by
    intro k h P hP hF hI hou hd hk
    obtain ⟨R1, Z1, S1⟩ := R.pa hm hP hF
    refine ⟨(b01_t ?_).symm, R1, S1.mo (fun r hr => by unfold nSc at hr; omega)⟩
    refine bis.alk ivs ivo ivf ivv ho hu' (FE.eqv P) hou (fun a b ha hb hab => ?_)
    exact hI.2.2.2 (LK s (FE P)) (LK.eqv n60 (FE.eqv P)) (fun j hj => hd j (by omega) hj) a b (by omega) (by omega) hab
  intro c
  induction c with
  | zero =>
    intro k h P hi hP hF hI hou hd hE
    obtain rfl : k = 60 := by omega
    refine V_iload_n d_fe_alike_37 rfl rfl ?_
    refine V_bipush (v := 60) d_fe_alike_38 (by decide) ?_
    refine V_icmp_ge d_fe_alike_40 (fun c40 => ?_) (fun c40 => ?_)
    · skip
      refine V_iconst (v := 1) d_fe_alike_97 (by decide) ?_
      refine V_ireturn d_fe_alike_98 rfl ?_
      exact ⟨_, rfl, fin 60 h P hP hF hI hou hd hI.le⟩
    · skip
      exact absurd (by decide) c40
  | succ c ih =>
    intro k h P hi hP hF hI hou hd hE
    obtain ⟨R1, Z1, S1⟩ := R.pa hm hP hF
    have X := R1.1
    have hle := hI.le
    obtain ⟨T, t1, t2, t3⟩ := R1.2.2.1
    refine V_iload_n d_fe_alike_37 rfl rfl ?_
    refine V_bipush (v := 60) d_fe_alike_38 (by decide) ?_
    refine V_icmp_ge d_fe_alike_40 (fun c40 => ?_) (fun c40 => ?_)
    · skip
      exact absurd (geN (b := 60) c40 (by omega)) (by omega)
    · skip
      refine V_iload_n d_fe_alike_43 rfl rfl ?_
      refine V_aload_n d_fe_alike_44 rfl rfl ?_
      refine V_getf d_fe_alike_45 fl_fe_50 (by first | assumption | exact X.1 | exact hu_self _ _ _ | (simp (disch := first | assumption | (apply Ne.symm; assumption)) only [hu_self, hu_ne]; assumption)) rfl ?_
      refine V_getf d_fe_alike_48 fl_fe_426 hP.1 rfl ?_
      refine V_icmp_ge d_fe_alike_51 (fun c51 => ?_) (fun c51 => ?_)
      · skip
        refine V_iconst (v := 1) d_fe_alike_97 (by decide) ?_
        refine V_ireturn d_fe_alike_98 rfl ?_
        exact ⟨_, rfl, fin k h P hP hF hI hou hd (geN c51 (by omega))⟩
      · skip
        have hlt := ltN c51 (by omega)
        obtain ⟨x, y, hx, hy, ex, ey, hxy⟩ := hI.2.2.1 k hlt
        obtain ⟨ax, u1, u2, W1, w1⟩ := t3 x hx
        obtain ⟨ay, u3, u4, W2, w2⟩ := t3 y hy
        have eL : pjL P k = x := by unfold pjL; rw [ex]; exact cl x (by omega)
        have eR : pjR P k = y := by unfold pjR; rw [ey]; exact cl y (by omega)
        refine V_aload_n d_fe_alike_54 rfl rfl ?_
        refine V_aload_n d_fe_alike_55 rfl rfl ?_
        refine V_getf d_fe_alike_56 fl_fe_17 (by first | assumption | exact X.1 | exact hu_self _ _ _ | (simp (disch := first | assumption | (apply Ne.symm; assumption)) only [hu_self, hu_ne]; assumption)) rfl ?_
        refine V_aload_n d_fe_alike_59 rfl rfl ?_
        refine V_getf d_fe_alike_60 fl_fe_50 (by first | assumption | exact X.1 | exact hu_self _ _ _ | (simp (disch := first | assumption | (apply Ne.symm; assumption)) only [hu_self, hu_ne]; assumption)) rfl ?_
        refine V_getf d_fe_alike_63 fl_fe_427 hP.1 rfl ?_
        refine V_iload_n d_fe_alike_66 rfl rfl ?_
        refine V_iald k d_fe_alike_67 hP.2.1 rfl (by omega) (arrL_get _ (by omega)) ?_
        refine V_aald x d_fe_alike_68 t2.1 (by decide) (by decide) ex (by omega) u1 ?_
        refine V_aload_n d_fe_alike_69 rfl rfl ?_
        refine V_getf d_fe_alike_70 fl_fe_17 (by first | assumption | exact X.1 | exact hu_self _ _ _ | (simp (disch := first | assumption | (apply Ne.symm; assumption)) only [hu_self, hu_ne]; assumption)) rfl ?_
        refine V_aload_n d_fe_alike_73 rfl rfl ?_
        refine V_getf d_fe_alike_74 fl_fe_50 (by first | assumption | exact X.1 | exact hu_self _ _ _ | (simp (disch := first | assumption | (apply Ne.symm; assumption)) only [hu_self, hu_ne]; assumption)) rfl ?_
        refine V_getf d_fe_alike_77 fl_fe_430 hP.1 rfl ?_
        refine V_iload_n d_fe_alike_80 rfl rfl ?_
        refine V_iald k d_fe_alike_81 hP.2.2.1 rfl (by omega) (arrL_get _ (by omega)) ?_
        refine V_aald y d_fe_alike_82 t2.1 (by decide) (by decide) ey (by omega) u3 ?_
        refine V_callV (N := fe_areLike) d_fe_alike_83 ml_fe_433 mdf_fe_areLike wi_fe_areLike wz_fe_areLike (sp_fe_areLike G R1 hm ivs ivo ivf ivv hx hy u2 u4 Z1 hI) (by first | assumption | exact X.1 | exact hu_self _ _ _ | (simp (disch := first | assumption | (apply Ne.symm; assumption)) only [hu_self, hu_ne]; assumption)) ⟨_, rfl, rfl⟩ rfl rfl (by decide) (by decide) (Nat.le_of_ble_eq_true rfl) rfl rfl (kI fun r83 h83 ⟨P', p1, p2, p3, p4, p5, p6, p7⟩ => ?_)
        refine V_if_ne d_fe_alike_86 (fun c86 => ?_) (fun c86 => ?_)
        · skip
          refine V_iinc (v := _) d_fe_alike_91 rfl rfl (by decide) rfl rfl ?_
          dsimp only [List.set]
          refine V_goto d_fe_alike_94 ?_
          have r1 : r83 = 1 := p5.resolve_left c86
          rw [show Int32.ofInt 1 = 1 from rfl, nI_1]
          refine ih (k + 1) h83 P' (by omega) p1 (hF.tr p2) p3 (p4.1 o u (by omega) (by omega) hou) (fun j hj hj' => ?_) (fun E hB => ?_)
          · exact alk_next n60 p4 hlt eL eR hd (p6 r1) j hj hj'
          · (have e1 := hE E hB k hlt; rw [eL, eR] at e1; exact (p7 E hB.1 (hE E hB) (hB.2.2 x y e1)).2)
        · skip
          refine V_iconst (v := 0) d_fe_alike_89 (by decide) ?_
          refine V_ireturn d_fe_alike_90 rfl ?_
          refine ⟨_, rfl, ?_⟩
          have r0 : r83 = 0 := c86
          obtain ⟨R2, Z2, S2⟩ := R.pa hm p1 (hF.tr p2)
          refine ⟨(b01_f (fun hA => ?_)).symm, R2, S2.mo (fun r hr => by unfold nSc at hr; omega)⟩
          obtain ⟨E, hB⟩ := hA.bis ivs ivo ivf ivv ho hu'
          have e1 := hE E hB k hlt
          rw [eL, eR] at e1
          have := (p7 E hB.1 (hE E hB) (hB.2.2 x y e1)).1
          rw [r0] at this
          exact absurd this (by decide)
def R_alk (s : Mem) (v w r : Int32) : Prop := cs (iO s v ∧ iO s w) (r = b01 (Alk s v.toNatClampNeg w.toNatClampNeg)) (r = -2)
theorem sp_fe_alike (G : Gk) {g : Gm} {h : Hp} {s : Mem} (R : RB g h s) (hm : Sm s) (ivs : IvS s) (ivo : IvO s) (ivf : IvF s) (ivv : IvV s) (v w : Int32) : Ct G fe_alike [.ref (g.2 2), .int v, .int w] h (pI fun r h' => R_alk s v w r ∧ RB g h' s ∧ Stq g h nSc g h') := by
  have X := R.1
  have n60 := ivo.2.1
  obtain ⟨_, _, ⟨P0, zp⟩, _, _⟩ := R.2.2.2.2.2
  refine Ct.ofL (M := fe_alike) (lv := [some (.ref (g.2 2)), some (.int v), some (.int w), none]) mdf_fe_alike rfl (Nat.le_of_ble_eq_true rfl) rfl ?_
  refine V_aload_n d_fe_alike_0 rfl rfl ?_
  refine V_iload_n d_fe_alike_1 rfl rfl ?_
  refine V_callV (N := fe_isThing) d_fe_alike_2 ml_fe_160 mdf_fe_isThing wi_fe_isThing wz_fe_isThing (sp_fe_isThing G X ivo _) (by first | assumption | exact X.1 | exact hu_self _ _ _ | (simp (disch := first | assumption | (apply Ne.symm; assumption)) only [hu_self, hu_ne]; assumption)) ⟨_, rfl, rfl⟩ rfl rfl (by decide) (by decide) (Nat.le_of_ble_eq_true rfl) rfl rfl (kI fun r2 h2 ⟨e2, f2⟩ => ?_)
  subst e2 f2
  refine V_if_eq d_fe_alike_5 (fun c5 => ?_) (fun c5 => ?_)
  · skip
    refine V_bipush (v := -2) d_fe_alike_16 (by decide) ?_
    refine V_ireturn d_fe_alike_18 rfl ?_
    refine ⟨_, rfl, Or.inr ⟨fun z => b01_e c5 z.1, rfl⟩, R, Stq.rf _ _ _⟩
  · skip
    refine V_aload_n d_fe_alike_8 rfl rfl ?_
    refine V_iload_n d_fe_alike_9 rfl rfl ?_
    refine V_callV (N := fe_isThing) d_fe_alike_10 ml_fe_160 mdf_fe_isThing wi_fe_isThing wz_fe_isThing (sp_fe_isThing G X ivo _) (by first | assumption | exact X.1 | exact hu_self _ _ _ | (simp (disch := first | assumption | (apply Ne.symm; assumption)) only [hu_self, hu_ne]; assumption)) ⟨_, rfl, rfl⟩ rfl rfl (by decide) (by decide) (Nat.le_of_ble_eq_true rfl) rfl rfl (kI fun r10 h10 ⟨e10, f10⟩ => ?_)
    subst e10 f10
    refine V_if_ne d_fe_alike_13 (fun c13 => ?_) (fun c13 => ?_)
    · skip
      obtain ⟨o, ho, rfl⟩ := b01_ne c5
      obtain ⟨u, hu', rfl⟩ := b01_ne c13
      refine V_aload_n d_fe_alike_19 rfl rfl ?_
      refine V_getf d_fe_alike_20 fl_fe_50 (by first | assumption | exact X.1 | exact hu_self _ _ _ | (simp (disch := first | assumption | (apply Ne.symm; assumption)) only [hu_self, hu_ne]; assumption)) rfl ?_
      refine V_callV (N := pa_start) d_fe_alike_23 ml_fe_421 mdf_pa_start wi_pa_start wz_pa_start (sp_pa_start G zp.pa) zp.1.1 ⟨_, rfl, rfl⟩ rfl rfl (by decide) (by decide) (Nat.le_of_ble_eq_true rfl) rfl rfl (kN fun h23 ⟨l, r, f, f1, p1, q1⟩ => ?_)
      obtain ⟨R1, Z1, S1⟩ := R.pa hm p1 q1
      have X1 := R1.1
      have hI0 : PIv (nO s) (0, l, r, f) := ⟨⟨fun i => i, fun i hi => absurd hi (Nat.not_lt_zero _), fun i j hi => absurd hi (Nat.not_lt_zero _)⟩, fun t ht => ⟨t, ht, f1 t ht, f1 t ht⟩, fun k hk => absurd hk (Nat.not_lt_zero _), fun E hE _ x y hx hy h => (by have e : x = y := nI_inj8 (by omega) (by omega) (by rw [← f1 x hx, ← f1 y hy]; exact h); subst e; exact hE.1 x)⟩
      refine V_aload_n d_fe_alike_26 rfl rfl ?_
      refine V_getf d_fe_alike_27 fl_fe_50 X1.1 rfl ?_
      refine V_iload_n d_fe_alike_30 rfl rfl ?_
      refine V_iload_n d_fe_alike_31 rfl rfl ?_
      refine V_callV (N := pa_join) d_fe_alike_32 ml_fe_423 mdf_pa_join wi_pa_join wz_pa_join (sp_pa_join G p1 (x := o) (y := u) (by omega) (by omega) (fun _ => by show 0 < 60; omega)) p1.1 ⟨_, rfl, rfl⟩ rfl rfl (by decide) (by decide) (Nat.le_of_ble_eq_true rfl) rfl rfl (kN fun h32 ⟨p2, q2⟩ => ?_)
      obtain ⟨j1, j2, j3, j4⟩ := hI0.join n60 ho hu'
      refine V_iconst (v := 0) d_fe_alike_35 (by decide) ?_
      refine V_istore_n d_fe_alike_36 rfl (by decide) rfl rfl ?_
      dsimp only [List.set]
      refine (lp_alk G R hm ivs ivo ivf ivv ho hu' 60 0 h32 (pJn (0, l, r, f) o u) (by omega) p2 (q1.tr q2) j1 j3 (fun j hj => by omega) (fun E hB => j4 E (fun k hk => absurd hk (Nat.not_lt_zero _)) hB.2.1)).mono (fun x h' hp => ?_)
      obtain ⟨r, e, e1, e2, e3⟩ := hp
      exact ⟨r, e, Or.inl ⟨⟨⟨o, ho, rfl⟩, ⟨u, hu', rfl⟩⟩, by rw [cl o (by omega), cl u (by omega)]; exact e1⟩, e2, e3⟩
    · skip
      refine V_bipush (v := -2) d_fe_alike_16 (by decide) ?_
      refine V_ireturn d_fe_alike_18 rfl ?_
      refine ⟨_, rfl, Or.inr ⟨fun z => b01_e c13 z.2, rfl⟩, R, Stq.rf _ _ _⟩
