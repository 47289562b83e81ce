/-! copy: what it comes to -/
theorem cpd_E {N : Nat} {b c : Bf} (hE : bE N b c) (hN : N < 1000) {n0 : Nat} {v : Int32} (hv : v = MISS ∨ ∃ t, t < N ∧ v = nI t) : cpd b.2.2 n0 v = cpd c.2.2 n0 v := by
  unfold cpd
  rcases hv with e | ⟨t, ht, e⟩
  · rw [if_pos (Or.inl e), if_pos (Or.inl e)]
  · rw [e, cl t (by omega), hE.2.2 t ht]
theorem RB.cp {g : Gm} {h : Hp} {s t : Mem} {b bf : Bf} {T : List Value} (R : RB g h s) (hm : Sm s) (ivs : IvS s) (ivo : IvO s) (ivf : IvF s) (ivv : IvV s) (hb : bOK (nO s) b) (hE : bE (nO s) b bf) (hle : nO s + b.1 ≤ 60) (C4 : Cl g h 4 (25, T)) (hT : T.length = 60) (hA : ∀ k, k < b.1 → CpT g h s b T k) (hC : Cp s bf bf.1 bf.1 0 t) : RB g (hu h (g.2 2) (12, xfs g (s.1 0) (nI (nO s + b.1)) (s.1 33) (s.1 25))) t := by
  have n60 := ivo.2.1
  have n10 := ivs.2.1
  have S := Stq.put (h := h) R.1.2 (12, xfs g (s.1 0) (nI (nO s + b.1)) (s.1 33) (s.1 25))
  have C := Cl.put (h := h) R.1.2 (12, xfs g (s.1 0) (nI (nO s + b.1)) (s.1 33) (s.1 25))
  obtain ⟨RX, RS, ⟨T0, a1, a2, a3⟩, RP, RW, RZ⟩ := R
  have eT : T0 = T := by have := a2.1; rw [C4.1] at this; cases this; rfl
  subst eT
  obtain ⟨h8, h1, h2, h9, h9b, h10, h11, hcp, _⟩ := hC
  have eb1 : bf.1 = b.1 := hE.1.symm
  rw [eb1] at h8 h9b hcp
  have orow_E : ∀ k, k < b.1 → orow bf k = orow b k := fun k hk => by unfold orow; rw [hE.2.1 k hk]
  have orow_lt : ∀ k, k < b.1 → orow b k < nO s := fun k hk => by obtain ⟨o, ho, eo, _⟩ := hb.1 k hk; unfold orow; rw [eo, cl o (by omega)]; exact ho
  have e1 : ∀ q, q ≠ 8 → q ≠ 15 → t.1 q = s.1 q := fun q a b => by rw [h1 q a, sB_1 _ _ b]
  have e2 : ∀ q, q ≠ 9 → q ≠ 10 → q ≠ 11 → q ≠ 13 → q ≠ 14 → t.2 q = s.2 q := fun q a b c d e => by rw [h2 q a b c, sB_2 _ _ d e]
  have enS : nS t = nS s := by unfold nS; rw [e1 0 (by omega) (by omega)]
  have enO : nO t = nO s + b.1 := by
    have e : nO t = (t.1 8).toNatClampNeg := rfl
    rw [e, h8]; exact cl _ (by omega)
  have enP : nP t = nP s := by unfold nP; rw [e1 33 (by omega) (by omega)]
  have enf : nf t = nf s := by funext x; unfold nf; rw [e2 2 (by omega) (by omega) (by omega) (by omega) (by omega)]
  have e3 : t.2 3 = s.2 3 := e2 3 (by omega) (by omega) (by omega) (by omega) (by omega)
  have esh : ∀ o, o < nO s → sh t o = sh s o := fun o ho => by unfold sh; rw [h9 o ho]
  have eshn : ∀ k, k < b.1 → sh t (nO s + k) = sh s (orow b k) := fun k hk => by unfold sh; rw [h9b k hk, orow_E k hk]
  have hfd : ∀ x j, fdS t x j = fdS s x j := fun x j => by
    unfold fdS
    rw [e3, e2 4 (by omega) (by omega) (by omega) (by omega) (by omega), e2 5 (by omega) (by omega) (by omega) (by omega) (by omega), e2 6 (by omega) (by omega) (by omega) (by omega) (by omega), e2 7 (by omega) (by omega) (by omega) (by omega) (by omega)]
  have hu1 : ∀ x, uS t x ↔ uS s x := fun x => by
    unfold uS
    rw [enS, enO, e2 1 (by omega) (by omega) (by omega) (by omega) (by omega)]
    constructor
    · rintro (y | ⟨o, o1, o2⟩)
      · exact Or.inl y
      · rcases Nat.lt_or_ge o (nO s) with z | z
        · exact Or.inr ⟨o, z, by rw [← h9 o z]; exact o2⟩
        · have := h9b (o - nO s) (by omega)
          rw [show nO s + (o - nO s) = o by omega, orow_E _ (by omega)] at this
          exact Or.inr ⟨orow b (o - nO s), orow_lt _ (by omega), by rw [← this]; exact o2⟩
    · rintro (y | ⟨o, o1, o2⟩)
      · exact Or.inl y
      · exact Or.inr ⟨o, by omega, by rw [h9 o o1]; exact o2⟩
  refine ⟨?_, ?_, ?_, ?_, ?_, ?_⟩
  · unfold PX
    rw [e1 0 (by omega) (by omega), e1 33 (by omega) (by omega), e1 25 (by omega) (by omega), h8]
    exact C
  · exact (RS.st hm.1 S (by omega) (by omega) (fun r _ _ => by omega)).co enS (fun i _ => ⟨by rw [e2 1 (by omega) (by omega) (by omega) (by omega) (by omega)], by rw [e2 2 (by omega) (by omega) (by omega) (by omega) (by omega)], hu1 i, fun j _ => hfd i j⟩)
  · refine ⟨T0, hT, C4.st S (by omega), fun o ho => ?_⟩
    rw [enO] at ho
    rcases Nat.lt_or_ge o (nO s) with z | z
    · obtain ⟨tt, b1, b2, W, b3, b4, b5⟩ := a3 o z
      have n8 := (ivs.2.2.1 _ (ivo.2.2 o z).2).2
      refine ⟨tt, b1, by rw [h9 o z]; exact b2.st S (by omega), W, by rw [esh o z, enf]; exact b3, b4.st S (by omega), fun f hf => ?_⟩
      rw [esh o z, enf] at hf
      obtain ⟨a, c1, c2⟩ := b5 f hf
      refine ⟨a, c1, ?_⟩
      have q1 : rowN t o f = rowN s o f := by unfold rowN; rw [esh o z, e3, h10 _ (by omega)]
      have q2 : ∀ i, i < rowN s o f → rowF t o f i = rowF s o f i := fun i hi => by
        have h6 := row6 ivo ivf ivv z hf
        unfold rowF rwF
        rw [esh o z, e3, h10 _ (by omega)]
        dsimp only
        rw [h11 _ (by omega)]
      rw [q1, arrL_congr q2]
      exact c2.st S (by omega)
    · obtain ⟨k, rfl⟩ : ∃ k, o = nO s + k := ⟨o - nO s, by omega⟩
      have hk : k < b.1 := by omega
      obtain ⟨tt, b1, b2, W, b3, b4, b5⟩ := hA k hk
      have hol := orow_lt k hk
      have n8 := (ivs.2.2.1 _ (ivo.2.2 _ hol).2).2
      refine ⟨tt, b1, by rw [h9b k hk, orow_E k hk]; exact b2.st S (by omega), W, by rw [eshn k hk, enf]; exact b3, b4.st S (by omega), fun f hf => ?_⟩
      rw [eshn k hk, enf] at hf
      obtain ⟨a, c1, c2⟩ := b5 f hf
      refine ⟨a, c1, ?_⟩
      obtain ⟨p1, p2⟩ := hcp k hk f (by rw [orow_E k hk]; exact hf)
      rw [orow_E k hk] at p1 p2
      have k3 : s.2 3 (8 * sh s (orow b k) + f) = 0 ∨ s.2 3 (8 * sh s (orow b k) + f) = 1 ∨ s.2 3 (8 * sh s (orow b k) + f) = 2 ∨ s.2 3 (8 * sh s (orow b k) + f) = 3 := by
        rcases ivf _ (ivo.2.2 _ hol).2 f hf with y | ⟨y | y, _⟩ | ⟨y, _⟩
        · exact Or.inl y
        · exact Or.inr (Or.inl y)
        · exact Or.inr (Or.inr (Or.inl y))
        · exact Or.inr (Or.inr (Or.inr y))
      have q1 : rowN t (nO s + k) f = rowN s (orow b k) f := by
        unfold rowN rwN
        rw [eshn k hk, e3, p1]
        by_cases y2 : s.2 3 (8 * sh s (orow b k) + f) = 2
        · rw [if_pos y2, if_pos y2, if_neg (by rw [y2]; decide)]
        · rw [if_neg y2, if_neg y2]
      have q2 : ∀ i, i < rowN s (orow b k) f → rowF t (nO s + k) f i = cpF s b (nO s) (orow b k) f i := fun i hi => by
        unfold cpF rowF rwF
        rw [eshn k hk, e3, p1]
        rcases k3 with y | y | y | y
        · rw [if_neg (by rw [y]; decide), if_neg (by rw [y]; decide), if_neg (by rw [y]; exact fun z => z.elim (by decide) (by decide)), if_neg (by rw [y]; decide)]
        · rw [if_neg (by rw [y]; decide), if_pos y, if_pos (Or.inl y), if_neg (by rw [y]; decide)]
          exact (cpd_E hE (by omega) ((ivv _ hol f hf).1 y)).symm
        · obtain ⟨len, r1, r2, r3, r4, r5, r6⟩ := row2 ivv hol hf y
          rw [r4] at hi
          rw [if_pos y, if_pos (Or.inr y), if_pos y]
          dsimp only
          rw [p2 y i (by omega) (by rw [r2, cl len (by omega)]; exact hi)]
          exact (cpd_E hE (by omega) (Or.inr (r6 i hi))).symm
        · have e0 : rowN s (orow b k) f = 0 := by unfold rowN rwN; rw [if_neg (by rw [y]; decide), if_pos y]
          omega
      rw [q1, arrL_congr q2]
      exact c2.st S (by omega)
  · exact (RP.st hm.2.2.1 S (by omega) (fun r _ _ => by omega)).co enP (fun p _ => ⟨by rw [e2 34 (by omega) (by omega) (by omega) (by omega) (by omega)], fun i _ => ⟨by rw [e2 35 (by omega) (by omega) (by omega) (by omega) (by omega)], by rw [e2 36 (by omega) (by omega) (by omega) (by omega) (by omega)]⟩⟩)
  · exact (RW.st hm.2.2.2 S (by omega) (fun r _ _ => by omega)).co (e1 25 (by omega) (by omega)) (e2 26 (by omega) (by omega) (by omega) (by omega) (by omega)) (e2 27 (by omega) (by omega) (by omega) (by omega) (by omega)) (e2 28 (by omega) (by omega) (by omega) (by omega) (by omega)) (e2 29 (by omega) (by omega) (by omega) (by omega) (by omega)) (e2 30 (by omega) (by omega) (by omega) (by omega) (by omega)) (e2 31 (by omega) (by omega) (by omega) (by omega) (by omega))
  · exact RZ.st S (fun r _ _ => by omega)
def R_cpy (s : Mem) (v r : Int32) (t : Mem) : Prop := cs (iO s v) (cs (60 < nO s + (findB s v.toNatClampNeg).1) (No s (-4) r t) (r = nI (nO s) ∧ Cp s (findB s v.toNatClampNeg) (findB s v.toNatClampNeg).1 (findB s v.toNatClampNeg).1 0 t)) (No s (-2) r t)
theorem tl_copy (G : Gk) {g0 g : Gm} {h : Hp} {n c : Nat} {a d e v1 : Int32} {l3 : Option Value} {b : Bf} (hX : h (g0.2 2) = some (12, xfs g a (nI n) d e)) (Z : ZR g h b) (hc : b.1 = c) : V G fe_copy (pI fun r h' => r = nI n ∧ h' = hu h (g0.2 2) (12, xfs g a (nI (n + c)) d e)) h 0 0 84 [some (.ref (g0.2 2)), some (.int v1), some (.int (nI n)), l3] [] := by
  subst hc
  refine V_aload_n d_fe_copy_84 rfl rfl ?_
  refine V_iload_n d_fe_copy_85 rfl rfl ?_
  refine V_aload_n d_fe_copy_86 rfl rfl ?_
  refine V_getf d_fe_copy_87 fl_fe_43 hX rfl ?_
  refine V_getf d_fe_copy_90 fl_fe_209 Z.1.1 rfl ?_
  refine V_iadd d_fe_copy_93 ?_
  rw [nI_add]
  refine V_putf d_fe_copy_94 fp_fe_134 rfl rfl hX ?_
  refine V_iload_n d_fe_copy_97 rfl rfl ?_
  refine V_ireturn d_fe_copy_98 rfl ?_
  exact ⟨_, rfl, rfl, rfl⟩
theorem sp_fe_copy (G : Gk) {g : Gm} {h : Hp} {s : Mem} (R : RB g h s) (hm : Sm s) (ivs : IvS s) (ivo : IvO s) (ivf : IvF s) (ivv : IvV s) (v : Int32) : Ct G fe_copy [.ref (g.2 2), .int v] h (pI fun r h' => ∀ r' t, R_cpy s v r' t → r = r' ∧ Nx g h h' t) := by
  have X := R.1
  have n60 := ivo.2.1
  refine Ct.ofL (M := fe_copy) (lv := [some (.ref (g.2 2)), some (.int v), none, none]) mdf_fe_copy rfl (Nat.le_of_ble_eq_true rfl) rfl ?_
  refine V_aload_n d_fe_copy_0 rfl rfl ?_
  refine V_iload_n d_fe_copy_1 rfl rfl ?_
  refine V_callV (N := fe_isThing) d_fe_copy_2 ml_fe_160 mdf_fe_isThing wi_fe_isThing wz_fe_isThing (sp_fe_isThing G X ivo _) (by first | assumption | exact X.1 | exact hu_self _ _ _ | (simp (disch := first | assumption | (apply Ne.symm; assumption)) only [hu_self, hu_ne]; assumption)) ⟨_, rfl, rfl⟩ rfl rfl (by decide) (by decide) (Nat.le_of_ble_eq_true rfl) rfl rfl (kI fun r2 h2 ⟨e2, f2⟩ => ?_)
  subst e2 f2
  refine V_if_ne d_fe_copy_5 (fun c5 => ?_) (fun c5 => ?_)
  · skip
    obtain ⟨o, ho, rfl⟩ := b01_ne c5
    have hR0 : ∀ r' t, R_cpy s (nI o) r' t → _ := fun r' t (hR : R_cpy s (nI o) r' t) => by unfold R_cpy at hR; rw [cl o (by omega)] at hR; exact hR.t ⟨o, ho, rfl⟩
    refine V_aload_n d_fe_copy_11 rfl rfl ?_
    refine V_iload_n d_fe_copy_12 rfl rfl ?_
    refine V_callV (N := fe_reach) d_fe_copy_13 ml_fe_173 mdf_fe_reach wi_fe_reach wz_fe_reach (sp_fe_reach G R hm ivs ivo ivv ho) (by first | assumption | exact X.1 | exact hu_self _ _ _ | (simp (disch := first | assumption | (apply Ne.symm; assumption)) only [hu_self, hu_ne]; assumption)) ⟨_, rfl, rfl⟩ rfl rfl (by decide) (by decide) (Nat.le_of_ble_eq_true rfl) rfl rfl (kN fun h13 ⟨b, Z, hE, hb, R1, S1⟩ => ?_)
    have X := R1.1
    have b60 := hb.le (by omega)
    have hX0 : h13 (g.2 2) = some (12, xfs g (s.1 0) (nI (nO s)) (s.1 33) (s.1 25)) := by have := X.1; rw [ivo.1] at this; exact this
    refine V_aload_n d_fe_copy_16 rfl rfl ?_
    refine V_getf d_fe_copy_17 fl_fe_134 hX0 rfl ?_
    refine V_istore_n d_fe_copy_20 rfl (by decide) rfl rfl ?_
    dsimp only [List.set]
    refine V_iload_n d_fe_copy_21 rfl rfl ?_
    refine V_aload_n d_fe_copy_22 rfl rfl ?_
    refine V_getf d_fe_copy_23 fl_fe_43 hX0 rfl ?_
    refine V_getf d_fe_copy_26 fl_fe_209 Z.1.1 rfl ?_
    refine V_iadd d_fe_copy_29 ?_
    rw [nI_add]
    refine V_bipush (v := 60) d_fe_copy_30 (by decide) ?_
    refine V_icmp_le d_fe_copy_32 (fun c32 => ?_) (fun c32 => ?_)
    · skip
      have hle : nO s + b.1 ≤ 60 := by rcases Nat.lt_or_ge 60 (nO s + b.1) with z | z; exact absurd c32 (fun y => nI_ge (a := 60) (b := nO s + b.1) z (by omega) y); exact z
      refine V_iconst (v := 0) d_fe_copy_38 (by decide) ?_
      refine V_istore_n d_fe_copy_39 rfl (by decide) rfl rfl ?_
      dsimp only [List.set]
      obtain ⟨T, a1, a2, a3⟩ := R1.2.2.1
      refine V.need (cr := 10 * b.1) (sr := 58 * b.1) ?_ (by show 10 * b.1 ≤ 600; omega) (by show 58 * b.1 ≤ 3480; omega)
      refine lp_copy G (g0 := g) (h0 := h13) hm ivs ivo ivf ivv hb hle _ (fun g' h' T' R' Z' S' gr C4 hT hA => ?_) b.1 0 g h13 T (by omega) R1 Z (Stq.rf _ _ _) (fun _ _ => rfl) a2 a1 (fun k' hk' => by omega)
      have hXx : h' (g.2 2) = some (12, xfs g' (s.1 0) (nI (nO s)) (s.1 33) (s.1 25)) := by have := R'.1.1; rw [ivo.1, gr 2 (by omega)] at this; exact this
      refine (tl_copy G hXx Z' rfl).mono (fun x h2 hp => ?_)
      obtain ⟨r, e, er, eh⟩ := hp
      refine ⟨r, e, fun r' t hR => ?_⟩
      obtain ⟨w1, w2⟩ := (hR0 r' t hR).f (by rw [← hE.1]; omega)
      have RBt := R'.cp hm ivs ivo ivf ivv hb hE hle C4 hT hA w2
      have Sx := Stq.put (h := h') R'.1.2 (12, xfs g' (s.1 0) (nI (nO s + b.1)) (s.1 33) (s.1 25))
      rw [gr 2 (by omega), ← eh] at RBt Sx
      exact ⟨by rw [er, w1], g', RBt, ((S1.mo (fun r hr => by unfold KH at hr; unfold nSc; omega)).tr (S'.mo (fun r hr => by unfold KH at hr; unfold cpD nSc; omega))).tr (Sx.mo (fun r hr => by unfold KH at hr; omega)), gr 2 (by omega)⟩
    · skip
      refine V_bipush (v := -4) d_fe_copy_35 (by decide) ?_
      refine V_ireturn d_fe_copy_37 rfl ?_
      refine ⟨_, rfl, fun r' t hR => ?_⟩
      have h60 : 60 < nO s + (findB s o).1 := (by rcases Nat.lt_or_ge 60 (nO s + b.1) with z | z; (rw [← hE.1]; exact z); exact absurd (nI_le (b := 60) z (by omega)) c32)
      obtain ⟨w1, w2⟩ := (hR0 r' t hR).t h60
      exact ⟨w1.symm, Nx.sc R1 S1 w2.co⟩
  · skip
    refine V_bipush (v := -2) d_fe_copy_8 (by decide) ?_
    refine V_ireturn d_fe_copy_10 rfl ?_
    refine ⟨_, rfl, fun r' t hR => ?_⟩
    obtain ⟨w1, w2⟩ := hR.f (b01_e c5)
    exact ⟨w1.symm, Nx.rf R w2.co⟩
