/-! rowsLike, areLike, alike -/
theorem RB.pa {g : Gm} {h0 h : Hp} {s : Mem} {P : Pj} (R : RB g h0 s) (hm : Sm s) (hP : PaR h (g.2 12) (g.2 13) (g.2 14) (g.2 15) P) (hF : Fr4 h0 (g.2 12) (g.2 13) (g.2 14) (g.2 15) h) : RB g h s ∧ ZP g h P ∧ Stq g h0 (fun r => r ≠ 12 ∧ r ≠ 13 ∧ r ≠ 14 ∧ r ≠ 15) g h := by
  obtain ⟨zv, ⟨b0, zr⟩, ⟨P0, zp⟩, z0, z1⟩ := R.2.2.2.2.2
  have S : Stq g h0 (fun r => r ≠ 12 ∧ r ≠ 13 ∧ r ≠ 14 ∧ r ≠ 15) g h := Stq.of (fun a ha hd => hF a (fun z => hd.1 (by rw [z]; exact zp.1.2)) (fun z => hd.2.1 (by rw [z]; exact zp.2.1.2)) (fun z => hd.2.2.1 (by rw [z]; exact zp.2.2.1.2)) (fun z => hd.2.2.2 (by rw [z]; exact zp.2.2.2.2)))
  have Z : ZP g h P := ⟨⟨hP.1, zp.1.2⟩, ⟨hP.2.1, zp.2.1.2⟩, ⟨hP.2.2.1, zp.2.2.1.2⟩, ⟨hP.2.2.2.1, zp.2.2.2.2⟩⟩
  exact ⟨R.sc hm (S.mo (fun r hr => by unfold nSc at hr; omega)) ⟨zv.st S (by omega), ⟨b0, zr.st S (by omega) (by omega) (by omega)⟩, ⟨P, Z⟩, z0.st S (by omega) (by omega) (by omega), z1.st S (by omega) (by omega) (by omega)⟩, Z, S⟩
theorem ZP.pa {g : Gm} {h : Hp} {P : Pj} (Z : ZP g h P) : PaR h (g.2 12) (g.2 13) (g.2 14) (g.2 15) P := ⟨Z.1.1, Z.2.1.1, Z.2.2.1.1, Z.2.2.2.1, Z.2.1.ne Z.2.2.1 (by omega), Z.2.1.ne Z.2.2.2 (by omega), Z.2.2.1.ne Z.2.2.2 (by omega)⟩
theorem Fr4.rf (h : Hp) (a p q u : Nat) : Fr4 h a p q u h := fun _ _ _ _ _ => rfl
theorem Fr4.tr {h h1 h2 : Hp} {a p q u : Nat} (f : Fr4 h a p q u h1) (g : Fr4 h1 a p q u h2) : Fr4 h a p q u h2 := fun z z1 z2 z3 z4 => (g z z1 z2 z3 z4).trans (f z z1 z2 z3 z4)
/-- two rows are alike as far as Q tells -/
def RLr (N : Nat) (lead : Prop) (Q : Rel) (n1 n2 : Nat) (F1 F2 : Nat → Int32) : Prop := n1 = n2 ∧ ∀ i, i < n1 → F1 i = F2 i ∨ (lead ∧ ∃ x y, x < N ∧ y < N ∧ F1 i = nI x ∧ F2 i = nI y ∧ Q x y)
/-- families grow, pairs that were put down stay -/
def Mo (P P' : Pj) : Prop := (∀ a b, a < 60 → b < 60 → FE P a b → FE P' a b) ∧ P.1 ≤ P'.1 ∧ ∀ j, j < P.1 → P'.2.1 j = P.2.1 j ∧ P'.2.2.1 j = P.2.2.1 j
theorem Mo.rf (P : Pj) : Mo P P := ⟨fun _ _ _ _ h => h, Nat.le_refl _, fun _ _ => ⟨rfl, rfl⟩⟩
theorem Mo.tr {P Q R : Pj} (a : Mo P Q) (b : Mo Q R) : Mo P R := ⟨fun x y hx hy h => b.1 x y hx hy (a.1 x y hx hy h), Nat.le_trans a.2.1 b.2.1, fun j hj => by
  have q1 := a.2.2 j hj
  have q2 := b.2.2 j (Nat.lt_of_lt_of_le hj a.2.1)
  exact ⟨q2.1.trans q1.1, q2.2.trans q1.2⟩⟩
theorem Mo.jn {N : Nat} {P : Pj} (hN : N ≤ 60) (H : PIv N P) {x y : Nat} (hx : x < N) (hy : y < N) : Mo P (pJn P x y) := by
  refine ⟨(H.join hN hx hy).2.1, ?_⟩
  by_cases hne : P.2.2.2 x = P.2.2.2 y
  · rw [pJn_y hne]
    exact ⟨Nat.le_refl _, fun _ _ => ⟨rfl, rfl⟩⟩
  · rw [pJn_n hne]
    exact ⟨Nat.le_succ _, fun j hj => ⟨pk_un (by omega), pk_un (by omega)⟩⟩
/-- behind a comparison that C says is right -/
def Aft (N : Nat) (P P' : Pj) (C : Rel → Prop) (r : Int32) : Prop := PIv N P' ∧ Mo P P' ∧ (r = 0 ∨ r = 1) ∧ (r = 1 → C (FE P')) ∧ ∀ E : Rel, Eqv E → InE P E → C E → r = 1 ∧ InE P' E
theorem lp_rl (G : Gk) {g : Gm} {h0 : Hp} {s : Mem} {N r1 r2 n : Nat} {P0 : Pj} {F1 F2 : Nat → Int32} {ld : Int32} (R : RB g h0 s) (hm : Sm s) (hN : N ≤ 60) (i1 : Im g h0 r1 (20, arrL n F1)) (i2 : Im g h0 r2 (20, arrL n F2)) (n6 : n ≤ 6) (hl : ld ≠ 0 → InN N n F1 ∧ InN N n F2) : ∀ (c i : Nat) (h : Hp) (P : Pj), i + c = n → PaR h (g.2 12) (g.2 13) (g.2 14) (g.2 15) P → Fr4 h0 (g.2 12) (g.2 13) (g.2 14) (g.2 15) h → PIv N P → Mo P0 P → (∀ j, j < i → F1 j = F2 j ∨ (ld ≠ 0 ∧ ∃ x y, x < N ∧ y < N ∧ F1 j = nI x ∧ F2 j = nI y ∧ FE P x y)) → (∀ E : Rel, Eqv E → InE P0 E → RLr N (ld ≠ 0) E n n F1 F2 → InE P E) →
    V G fe_rowsLike (pI fun r h' => ∃ P', PaR h' (g.2 12) (g.2 13) (g.2 14) (g.2 15) P' ∧ Fr4 h0 (g.2 12) (g.2 13) (g.2 14) (g.2 15) h' ∧ Aft N P0 P' (fun Q => RLr N (ld ≠ 0) Q n n F1 F2) r) h 0 0 12 [some (.ref (g.2 2)), some (.ref r1), some (.ref r2), some (.int ld), some (.int (nI i))] [] := by
  intro c
  induction c with
  | zero =>
    intro i h P hi hP hF hI hmo hd hE
    obtain rfl : i = n := by omega
    obtain ⟨R1, Z1, S1⟩ := R.pa hm hP hF
    have j1 := i1.st S1 (by omega)
    refine V_iload d_fe_rowsLike_12 rfl ?_
    refine V_aload_n d_fe_rowsLike_14 rfl rfl ?_
    refine V_alen d_fe_rowsLike_15 j1.1 (by decide) (by decide) ?_
    rw [arrL_len]
    refine V_icmp_ge d_fe_rowsLike_16 (fun c16 => ?_) (fun c16 => ?_)
    · skip
      refine V_iconst (v := 1) d_fe_rowsLike_78 (by decide) ?_
      refine V_zreturn d_fe_rowsLike_79 rfl (by first | exact Or.inl rfl | exact Or.inr rfl) ?_
      exact ⟨_, rfl, P, hP, hF, hI, hmo, Or.inr rfl, fun _ => ⟨rfl, hd⟩, fun E h1 h2 h3 => ⟨rfl, hE E h1 h2 h3⟩⟩
    · skip
      exact absurd (ltN c16 (by omega)) (by omega)
  | succ c ih =>
    intro i h P hi hP hF hI hmo hd hE
    obtain ⟨R1, Z1, S1⟩ := R.pa hm hP hF
    have X := R1.1
    have j1 := i1.st S1 (by omega)
    have j2 := i2.st S1 (by omega)
    refine V_iload d_fe_rowsLike_12 rfl ?_
    refine V_aload_n d_fe_rowsLike_14 rfl rfl ?_
    refine V_alen d_fe_rowsLike_15 j1.1 (by decide) (by decide) ?_
    rw [arrL_len]
    refine V_icmp_ge d_fe_rowsLike_16 (fun c16 => ?_) (fun c16 => ?_)
    · skip
      exact absurd (geN c16 (by omega)) (by omega)
    · skip
      refine V_aload_n d_fe_rowsLike_19 rfl rfl ?_
      refine V_iload d_fe_rowsLike_20 rfl ?_
      refine V_iald i d_fe_rowsLike_22 j1.1 rfl (by omega) (arrL_get _ (by omega)) ?_
      refine V_aload_n d_fe_rowsLike_23 rfl rfl ?_
      refine V_iload d_fe_rowsLike_24 rfl ?_
      refine V_iald i d_fe_rowsLike_26 j2.1 rfl (by omega) (arrL_get _ (by omega)) ?_
      refine V_icmp_ne d_fe_rowsLike_27 (fun c27 => ?_) (fun c27 => ?_)
      · skip
        refine V_iload_n d_fe_rowsLike_33 rfl rfl ?_
        refine V_if_eq d_fe_rowsLike_34 (fun c34 => ?_) (fun c34 => ?_)
        · skip
          refine V_iconst (v := 0) d_fe_rowsLike_55 (by decide) ?_
          refine V_zreturn d_fe_rowsLike_56 rfl (by first | exact Or.inl rfl | exact Or.inr rfl) ?_
          exact ⟨_, rfl, P, hP, hF, hI, hmo, Or.inl rfl, fun e => absurd e (by decide), fun E h1 h2 h3 => by rcases h3.2 i (by omega) with z | ⟨z, _⟩; exact absurd z c27; exact absurd c34 z⟩
        · skip
          refine V_aload_n d_fe_rowsLike_37 rfl rfl ?_
          refine V_iload d_fe_rowsLike_38 rfl ?_
          refine V_iald i d_fe_rowsLike_40 j1.1 rfl (by omega) (arrL_get _ (by omega)) ?_
          refine V_ldc d_fe_rowsLike_41 kc_fe_87 ?_
          refine V_icmp_eq d_fe_rowsLike_43 (fun c43 => ?_) (fun c43 => ?_)
          · skip
            refine V_iconst (v := 0) d_fe_rowsLike_55 (by decide) ?_
            refine V_zreturn d_fe_rowsLike_56 rfl (by first | exact Or.inl rfl | exact Or.inr rfl) ?_
            exact ⟨_, rfl, P, hP, hF, hI, hmo, Or.inl rfl, fun e => absurd e (by decide), fun E h1 h2 h3 => by rcases h3.2 i (by omega) with z | ⟨_, x, y, a1, a2, a3, a4, _⟩; exact absurd z c27; (rw [c43] at a3; exact absurd a3.symm (nI_miss (by omega)))⟩
          · skip
            refine V_aload_n d_fe_rowsLike_46 rfl rfl ?_
            refine V_iload d_fe_rowsLike_47 rfl ?_
            refine V_iald i d_fe_rowsLike_49 j2.1 rfl (by omega) (arrL_get _ (by omega)) ?_
            refine V_ldc d_fe_rowsLike_50 kc_fe_87 ?_
            refine V_icmp_ne d_fe_rowsLike_52 (fun c52 => ?_) (fun c52 => ?_)
            · skip
              obtain ⟨x, hx, ex⟩ := ((hl c34).1 i (by omega)).resolve_left c43
              obtain ⟨y, hy, ey⟩ := ((hl c34).2 i (by omega)).resolve_left c52
              refine V_aload_n d_fe_rowsLike_57 rfl rfl ?_
              refine V_getf d_fe_rowsLike_58 fl_fe_50 (by first | assumption | exact X.1 | exact hu_self _ _ _ | (simp (disch := first | assumption | (apply Ne.symm; assumption)) only [hu_self, hu_ne]; assumption)) rfl ?_
              refine V_aload_n d_fe_rowsLike_61 rfl rfl ?_
              refine V_iload d_fe_rowsLike_62 rfl ?_
              refine V_iald i d_fe_rowsLike_64 j1.1 rfl (by omega) (arrL_get _ (by omega)) ?_
              rw [ex]
              refine V_aload_n d_fe_rowsLike_65 rfl rfl ?_
              refine V_iload d_fe_rowsLike_66 rfl ?_
              refine V_iald i d_fe_rowsLike_68 j2.1 rfl (by omega) (arrL_get _ (by omega)) ?_
              rw [ey]
              refine V_callV (N := pa_join) d_fe_rowsLike_69 ml_fe_423 mdf_pa_join wi_pa_join wz_pa_join (sp_pa_join G hP (x := x) (y := y) (by omega) (by omega) (fun z => by have := hI.room (x := x) (y := y) (by omega) (by omega) z; omega)) hP.1 ⟨_, rfl, rfl⟩ rfl rfl (by decide) (by decide) (Nat.le_of_ble_eq_true rfl) rfl rfl (kN fun h69 ⟨p69, f69⟩ => ?_)
              obtain ⟨q1, q2, q3, q4⟩ := hI.join hN hx hy
              refine V_iinc (v := _) d_fe_rowsLike_72 rfl rfl (by decide) rfl rfl ?_
              dsimp only [List.set]
              refine V_goto d_fe_rowsLike_75 ?_
              rw [show Int32.ofInt 1 = 1 from rfl, nI_1]
              refine ih (i + 1) h69 (pJn P x y) (by omega) p69 (hF.tr f69) q1 (hmo.tr (Mo.jn hN hI hx hy)) (fun j hj => ?_) (fun E h1 h2 h3 => q4 E (hE E h1 h2 h3) ?_)
              · (by_cases z : j = i; (subst z; exact Or.inr ⟨c34, x, y, hx, hy, ex, ey, q3⟩); exact (hd j (by omega)).imp id (fun ⟨w, x', y', a1, a2, a3, a4, a5⟩ => ⟨w, x', y', a1, a2, a3, a4, q2 x' y' (by omega) (by omega) a5⟩))
              · (rcases h3.2 i (by omega) with z | ⟨_, x', y', a1, a2, a3, a4, a5⟩; exact absurd z c27; (rw [ex] at a3; rw [ey] at a4; rw [nI_inj8 (by omega) (by omega) a3, nI_inj8 (by omega) (by omega) a4]; exact a5))
            · skip
              refine V_iconst (v := 0) d_fe_rowsLike_55 (by decide) ?_
              refine V_zreturn d_fe_rowsLike_56 rfl (by first | exact Or.inl rfl | exact Or.inr rfl) ?_
              exact ⟨_, rfl, P, hP, hF, hI, hmo, Or.inl rfl, fun e => absurd e (by decide), fun E h1 h2 h3 => by rcases h3.2 i (by omega) with z | ⟨_, x, y, a1, a2, a3, a4, _⟩; exact absurd z c27; (rw [c52] at a4; exact absurd a4.symm (nI_miss (by omega)))⟩
      · skip
        refine V_goto d_fe_rowsLike_30 ?_
        refine V_iinc (v := _) d_fe_rowsLike_72 rfl rfl (by decide) rfl rfl ?_
        dsimp only [List.set]
        refine V_goto d_fe_rowsLike_75 ?_
        rw [show Int32.ofInt 1 = 1 from rfl, nI_1]
        refine ih (i + 1) h P (by omega) hP hF hI hmo (fun j hj => ?_) hE
        by_cases z : j = i
        · (subst z; exact Or.inl c27)
        · exact hd j (by omega)
theorem sp_fe_rowsLike (G : Gk) {g : Gm} {h : Hp} {s : Mem} {N r1 r2 n1 n2 : Nat} {P : Pj} {F1 F2 : Nat → Int32} (ld : Int32) (R : RB g h s) (hm : Sm s) (hN : N ≤ 60) (i1 : Im g h r1 (20, arrL n1 F1)) (i2 : Im g h r2 (20, arrL n2 F2)) (m6 : n1 ≤ 6) (n6 : n2 ≤ 6) (hl : ld ≠ 0 → InN N n1 F1 ∧ InN N n2 F2) (Z : ZP g h P) (hI : PIv N P) : Ct G fe_rowsLike [.ref (g.2 2), .ref r1, .ref r2, .int ld] h (pI fun r h' => ∃ P', PaR h' (g.2 12) (g.2 13) (g.2 14) (g.2 15) P' ∧ Fr4 h (g.2 12) (g.2 13) (g.2 14) (g.2 15) h' ∧ Aft N P P' (fun Q => RLr N (ld ≠ 0) Q n1 n2 F1 F2) r) := by
  refine Ct.ofL (M := fe_rowsLike) (lv := [some (.ref (g.2 2)), some (.ref r1), some (.ref r2), some (.int ld), none]) mdf_fe_rowsLike rfl (Nat.le_of_ble_eq_true rfl) rfl ?_
  refine V_aload_n d_fe_rowsLike_0 rfl rfl ?_
  refine V_alen d_fe_rowsLike_1 i1.1 (by decide) (by decide) ?_
  rw [arrL_len]
  refine V_aload_n d_fe_rowsLike_2 rfl rfl ?_
  refine V_alen d_fe_rowsLike_3 i2.1 (by decide) (by decide) ?_
  rw [arrL_len]
  refine V_icmp_eq d_fe_rowsLike_4 (fun c4 => ?_) (fun c4 => ?_)
  · skip
    refine V_iconst (v := 0) d_fe_rowsLike_9 (by decide) ?_
    refine V_istore d_fe_rowsLike_10 (by decide) rfl rfl ?_
    dsimp only [List.set]
    obtain rfl := nI_inj8 (by omega) (by omega) c4
    exact lp_rl G R hm hN i1 i2 n6 hl n1 0 h P (by omega) Z.pa (Fr4.rf _ _ _ _ _) hI (Mo.rf P) (fun j hj => by omega) (fun E h1 h2 h3 => h2)
  · skip
    refine V_iconst (v := 0) d_fe_rowsLike_7 (by decide) ?_
    refine V_zreturn d_fe_rowsLike_8 rfl (by first | exact Or.inl rfl | exact Or.inr rfl) ?_
    exact ⟨_, rfl, P, Z.pa, Fr4.rf _ _ _ _ _, hI, Mo.rf P, Or.inl rfl, fun e => absurd e (by decide), fun E h1 h2 h3 => by rw [h3.1] at c4; exact absurd rfl c4⟩
/-- two objects are alike as far as Q tells -/
def LK (s : Mem) (Q : Rel) (a b : Nat) : Prop := s.2 9 a = s.2 9 b ∧ ∀ f, f < nf s (sh s a) → RLr (nO s) (s.2 3 (8 * sh s a + f) = 1 ∨ s.2 3 (8 * sh s a + f) = 2) Q (rowN s a f) (rowN s b f) (rowF s a f) (rowF s b f)
theorem RLr.mo {N : Nat} {l : Prop} {Q Q' : Rel} {n1 n2 : Nat} {F1 F2 : Nat → Int32} (hN : N ≤ 60) (h : RLr N l Q n1 n2 F1 F2) (hq : ∀ a b, a < 60 → b < 60 → Q a b → Q' a b) : RLr N l Q' n1 n2 F1 F2 := ⟨h.1, fun i hi => (h.2 i hi).imp id (fun ⟨w, x, y, a1, a2, a3, a4, a5⟩ => ⟨w, x, y, a1, a2, a3, a4, hq x y (by omega) (by omega) a5⟩)⟩
theorem lp_al (G : Gk) {g : Gm} {h0 : Hp} {s : Mem} {t1 t2 a b : Nat} {P0 : Pj} (R : RB g h0 s) (hm : Sm s) (ivs : IvS s) (ivo : IvO s) (ivf : IvF s) (ivv : IvV s) (ha : a < nO s) (hb : b < nO s) (hT1 : Im g h0 t1 (10, [.int (s.2 9 a), .ref (g.2 (300 + a))])) (hT2 : Im g h0 t2 (10, [.int (s.2 9 b), .ref (g.2 (300 + b))])) (he : s.2 9 a = s.2 9 b) : ∀ (c f : Nat) (h : Hp) (P : Pj), f + c = nf s (sh s a) → PaR h (g.2 12) (g.2 13) (g.2 14) (g.2 15) P → Fr4 h0 (g.2 12) (g.2 13) (g.2 14) (g.2 15) h → PIv (nO s) P → Mo P0 P → (∀ f', f' < f → RLr (nO s) (s.2 3 (8 * sh s a + f') = 1 ∨ s.2 3 (8 * sh s a + f') = 2) (FE P) (rowN s a f') (rowN s b f') (rowF s a f') (rowF s b f')) → (∀ E : Rel, Eqv E → InE P0 E → LK s E a b → InE P E) →
    V G fe_areLike (pI fun r h' => ∃ P', PaR h' (g.2 12) (g.2 13) (g.2 14) (g.2 15) P' ∧ Fr4 h0 (g.2 12) (g.2 13) (g.2 14) (g.2 15) h' ∧ Aft (nO s) P0 P' (fun Q => LK s Q a b) r) h 0 0 26 [some (.ref (g.2 2)), some (.ref t1), some (.ref t2), some (.ref (g.2 (100 + sh s a))), some (.int (nI f))] [] := by
  have n60 := ivo.2.1
  obtain ⟨es, hs⟩ := ivo.2.2 a ha
  have n8 := (ivs.2.2.1 _ hs).2
  have esh : sh s b = sh s a := by unfold sh; rw [he]
  intro c
  induction c with
  | zero =>
    intro f h P hi hP hF hI hmo hd hE
    obtain rfl : f = nf s (sh s a) := by omega
    obtain ⟨R1, Z1, S1⟩ := R.pa hm hP hF
    obtain ⟨L, l1, l2, l3⟩ := R1.2.1
    have hsh := (l3 _ hs).2.at ivs hs
    refine V_iload d_fe_areLike_26 rfl ?_
    refine V_aload_n d_fe_areLike_28 rfl rfl ?_
    refine V_getf d_fe_areLike_29 fl_fe_120 hsh rfl ?_
    refine V_icmp_ge d_fe_areLike_32 (fun c32 => ?_) (fun c32 => ?_)
    · skip
      refine V_iconst (v := 1) d_fe_areLike_74 (by decide) ?_
      refine V_zreturn d_fe_areLike_75 rfl (by first | exact Or.inl rfl | exact Or.inr rfl) ?_
      exact ⟨_, rfl, P, hP, hF, hI, hmo, Or.inr rfl, fun _ => ⟨he, hd⟩, fun E h1 h2 h3 => ⟨rfl, hE E h1 h2 h3⟩⟩
    · skip
      exact absurd (ltN c32 (by omega)) (by omega)
  | succ c ih =>
    intro f h P hi hP hF hI hmo hd hE
    obtain ⟨R1, Z1, S1⟩ := R.pa hm hP hF
    have X := R1.1
    obtain ⟨L, l1, l2, l3⟩ := R1.2.1
    have hsh := (l3 _ hs).2.at ivs hs
    obtain ⟨L2, m1, m2, m3⟩ := (l3 _ hs).2.2
    obtain ⟨af, x1, x2⟩ := m3 f (by omega)
    obtain ⟨T', q1, q2, q3⟩ := R1.2.2.1
    obtain ⟨_, _, _, Wa, wa1, wa2, wa3⟩ := q3 a ha
    obtain ⟨_, _, _, Wb, wb1, wb2, wb3⟩ := q3 b hb
    obtain ⟨ra, ya1, ya2⟩ := wa3 f (by omega)
    obtain ⟨rb, yb1, yb2⟩ := wb3 f (by rw [esh]; omega)
    have T1 := hT1.st S1 (by omega)
    have T2 := hT2.st S1 (by omega)
    have hin : b01 (s.2 3 (8 * sh s a + f) = 1 ∨ s.2 3 (8 * sh s a + f) = 2) ≠ 0 → InN (nO s) (rowN s a f) (rowF s a f) ∧ InN (nO s) (rowN s b f) (rowF s b f) := fun z => ⟨(row_in ivv ha (by omega) (b01_ne z)).1, (row_in ivv hb (by rw [esh]; omega) (by rw [esh]; exact b01_ne z)).1⟩
    have P60 := sp_fe_rowsLike G (b01 (s.2 3 (8 * sh s a + f) = 1 ∨ s.2 3 (8 * sh s a + f) = 2)) R1 hm n60 ya2 yb2 (row6 ivo ivf ivv ha (by omega)) (row6 ivo ivf ivv hb (by rw [esh]; omega)) hin Z1 hI
    have eld : (b01 (s.2 3 (8 * sh s a + f) = 1 ∨ s.2 3 (8 * sh s a + f) = 2) ≠ 0) = (s.2 3 (8 * sh s a + f) = 1 ∨ s.2 3 (8 * sh s a + f) = 2) := propext ⟨fun z => b01_ne z, fun z => by rw [b01_t z]; decide⟩
    rw [eld] at P60
    refine V_iload d_fe_areLike_26 rfl ?_
    refine V_aload_n d_fe_areLike_28 rfl rfl ?_
    refine V_getf d_fe_areLike_29 fl_fe_120 hsh rfl ?_
    refine V_icmp_ge d_fe_areLike_32 (fun c32 => ?_) (fun c32 => ?_)
    · skip
      exact absurd (geN c32 (by omega)) (by omega)
    · skip
      refine V_aload_n d_fe_areLike_35 rfl rfl ?_
      refine V_aload_n d_fe_areLike_36 rfl rfl ?_
      refine V_getf d_fe_areLike_37 fl_fe_140 T1.1 rfl ?_
      refine V_iload d_fe_areLike_40 rfl ?_
      refine V_aald f d_fe_areLike_42 wa2.1 (by decide) (by decide) rfl (by omega) ya1 ?_
      refine V_aload_n d_fe_areLike_43 rfl rfl ?_
      refine V_getf d_fe_areLike_44 fl_fe_140 T2.1 rfl ?_
      refine V_iload d_fe_areLike_47 rfl ?_
      refine V_aald f d_fe_areLike_49 wb2.1 (by decide) (by decide) rfl (by omega) yb1 ?_
      refine V_aload_n d_fe_areLike_50 rfl rfl ?_
      refine V_getf d_fe_areLike_51 fl_fe_144 hsh rfl ?_
      refine V_iload d_fe_areLike_54 rfl ?_
      refine V_aald f d_fe_areLike_56 m2.1 (by decide) (by decide) rfl (by omega) x1 ?_
      refine V_callV (N := fd_leads) d_fe_areLike_57 ml_fe_166 mdf_fd_leads wi_fd_leads wz_fd_leads (sp_fd_leads G x2.1) x2.1 ⟨_, rfl, rfl⟩ rfl rfl (by decide) (by decide) (Nat.le_of_ble_eq_true rfl) rfl rfl (kI fun r57 h57 ⟨e57, f57⟩ => ?_)
      subst e57 f57
      refine V_callV (N := fe_rowsLike) d_fe_areLike_60 ml_fe_440 mdf_fe_rowsLike wi_fe_rowsLike wz_fe_rowsLike (P60) (by first | assumption | exact X.1 | exact hu_self _ _ _ | (simp (disch := first | assumption | (apply Ne.symm; assumption)) only [hu_self, hu_ne]; assumption)) ⟨_, rfl, rfl⟩ rfl rfl (by decide) (by decide) (Nat.le_of_ble_eq_true rfl) rfl rfl (kI fun r60 h60 ⟨P', p1, p2, p3, p4, p5, p6, p7⟩ => ?_)
      refine V_if_ne d_fe_areLike_63 (fun c63 => ?_) (fun c63 => ?_)
      · skip
        refine V_iinc (v := _) d_fe_areLike_68 rfl rfl (by decide) rfl rfl ?_
        dsimp only [List.set]
        refine V_goto d_fe_areLike_71 ?_
        have r1 : r60 = 1 := p5.resolve_left c63
        rw [show Int32.ofInt 1 = 1 from rfl, nI_1]
        refine ih (f + 1) h60 P' (by omega) p1 (hF.tr p2) p3 (hmo.tr p4) (fun f' hf' => ?_) (fun E h1 h2 h3 => (p7 E h1 (hE E h1 h2 h3) (h3.2 f (by omega))).2)
        by_cases z : f' = f
        · (subst z; exact p6 r1)
        · exact (hd f' (by omega)).mo n60 p4.1
      · skip
        refine V_iconst (v := 0) d_fe_areLike_66 (by decide) ?_
        refine V_zreturn d_fe_areLike_67 rfl (by first | exact Or.inl rfl | exact Or.inr rfl) ?_
        have r0 : r60 = 0 := c63
        exact ⟨_, rfl, P', p1, hF.tr p2, p3, hmo.tr p4, Or.inl rfl, fun e => absurd e (by decide), fun E h1 h2 h3 => by have := (p7 E h1 (hE E h1 h2 h3) (h3.2 f (by omega))).1; rw [r0] at this; exact absurd this (by decide)⟩
theorem sp_fe_areLike (G : Gk) {g : Gm} {h : Hp} {s : Mem} {t1 t2 a b : Nat} {P : Pj} (R : RB g h s) (hm : Sm s) (ivs : IvS s) (ivo : IvO s) (ivf : IvF s) (ivv : IvV s) (ha : a < nO s) (hb : b < nO s) (hT1 : Im g h t1 (10, [.int (s.2 9 a), .ref (g.2 (300 + a))])) (hT2 : Im g h t2 (10, [.int (s.2 9 b), .ref (g.2 (300 + b))])) (Z : ZP g h P) (hI : PIv (nO s) P) : Ct G fe_areLike [.ref (g.2 2), .ref t1, .ref t2] h (pI fun r h' => ∃ P', PaR h' (g.2 12) (g.2 13) (g.2 14) (g.2 15) P' ∧ Fr4 h (g.2 12) (g.2 13) (g.2 14) (g.2 15) h' ∧ Aft (nO s) P P' (fun Q => LK s Q a b) r) := by
  have X := R.1
  have n10 := ivs.2.1
  obtain ⟨es, hs⟩ := ivo.2.2 a ha
  obtain ⟨L, l1, l2, l3⟩ := R.2.1
  refine Ct.ofL (M := fe_areLike) (lv := [some (.ref (g.2 2)), some (.ref t1), some (.ref t2), none, none]) mdf_fe_areLike rfl (Nat.le_of_ble_eq_true rfl) rfl ?_
  refine V_aload_n d_fe_areLike_0 rfl rfl ?_
  refine V_getf d_fe_areLike_1 fl_fe_163 hT1.1 rfl ?_
  refine V_aload_n d_fe_areLike_4 rfl rfl ?_
  refine V_getf d_fe_areLike_5 fl_fe_163 hT2.1 rfl ?_
  refine V_icmp_eq d_fe_areLike_8 (fun c8 => ?_) (fun c8 => ?_)
  · skip
    refine V_aload_n d_fe_areLike_13 rfl rfl ?_
    refine V_getf d_fe_areLike_14 fl_fe_11 (by first | assumption | exact X.1 | exact hu_self _ _ _ | (simp (disch := first | assumption | (apply Ne.symm; assumption)) only [hu_self, hu_ne]; assumption)) rfl ?_
    refine V_aload_n d_fe_areLike_17 rfl rfl ?_
    refine V_getf d_fe_areLike_18 fl_fe_163 hT1.1 rfl ?_
    refine V_aald (sh s a) d_fe_areLike_21 l2.1 (by decide) (by decide) es (by omega) (l3 _ hs).1 ?_
    refine V_astore_n d_fe_areLike_22 rfl (by decide) rfl rfl ?_
    dsimp only [List.set]
    refine V_iconst (v := 0) d_fe_areLike_23 (by decide) ?_
    refine V_istore d_fe_areLike_24 (by decide) rfl rfl ?_
    dsimp only [List.set]
    exact lp_al G R hm ivs ivo ivf ivv ha hb hT1 hT2 c8 (nf s (sh s a)) 0 h P (by omega) Z.pa (Fr4.rf _ _ _ _ _) hI (Mo.rf P) (fun f' hf' => by omega) (fun E h1 h2 h3 => h2)
  · skip
    refine V_iconst (v := 0) d_fe_areLike_11 (by decide) ?_
    refine V_zreturn d_fe_areLike_12 rfl (by first | exact Or.inl rfl | exact Or.inr rfl) ?_
    exact ⟨_, rfl, P, Z.pa, Fr4.rf _ _ _ _ _, hI, Mo.rf P, Or.inl rfl, fun e => absurd e (by decide), fun E h1 h2 h3 => absurd h3.1 c8⟩
