/-! shape, object -/
def xfs (g : Gm) (a b c d : Int32) : List Value := [.ref (g.2 3), .int a, .ref (g.2 4), .int b, .ref (g.2 5), .int c, .ref (g.2 6), .int d, .ref (g.2 8), .ref (g.2 9), .ref (g.2 12), .ref (g.2 16), .ref (g.2 17), .ref (g.2 7)]
def R_shp (s : Mem) (v : Int32) (r : Int32) (t : Mem) : Prop := cs (v = -1 ∨ iS s v) (cs (nS s = 10) (r = -4 ∧ Sc s t) (r = nI (nS s) ∧ shpE s v t)) (r = -2 ∧ Sc s t)
theorem PSf.sub {g : Gm} {h : Hp} {s t : Mem} {i : Nat} (H : PSf g h s i) (hf : nf t i ≤ nf s i) (hd : ∀ j, j < nf t i → fdS t i j = fdS s i j) : PSf g h t i := by
  obtain ⟨L, q1, q2, q3⟩ := H
  refine ⟨L, q1, q2, fun j hj => ?_⟩
  rw [hd j hj]
  exact q3 j (by omega)
theorem RB.shp {g g' : Gm} {h h' : Hp} {s t : Mem} (R : RB g h s) (ivs : IvS s) (ivo : IvO s) (hm : Sm s) {v : Int32} {L L2 : List Value} (hn : nS s < 10) (hL : L.length = 10) (l3 : ∀ i, i < nS s → L[i]? = some (.ref (g.2 (100 + i)))) (hE : shpE s v t) {w k pw : Nat} (hw : (v = -1 ∧ k = 0 ∧ pw = 100 + nS s) ∨ (w < nS s ∧ v = nI w ∧ k = nf s w ∧ pw = 100 + w))
    (S : Stq g h (fun r => r ≠ 2 ∧ r ≠ 3 ∧ r ≠ 100 + nS s ∧ r ≠ 200 + nS s ∧ r ≠ pw) g' h') (gr : ∀ r, r ≠ 100 + nS s → r ≠ 200 + nS s → g'.2 r = g.2 r) (c2 : Cl g' h' 2 (12, xfs g (nI (nS s + 1)) (s.1 8) (s.1 33) (s.1 25))) (c3 : Cl g' h' 3 (24, L.set (nS s) (.ref (g'.2 (100 + nS s)))))
    (cn : Cl g' h' (100 + nS s) (8, [.int v, .ref (g'.2 (200 + nS s)), .int (nI k), .int 0])) (hL2 : L2.length = 8) (cf : Cl g' h' (200 + nS s) (22, L2)) (hf : ∀ j, j < k → ∃ a, L2[j]? = some (.ref a) ∧ Im g' h' a (2, fdS s w j))
    (cw : pw ≠ 100 + nS s → Cl g' h' (100 + w) (8, [.int (s.2 1 w), .ref (g.2 (200 + w)), .int (s.2 2 w), .int 1])) : Nx g h h' t := by
  obtain ⟨RX, ⟨L0, lq1, lq2, lq3⟩, RO, RP, RW, RZ⟩ := R
  have n10 := ivs.2.1
  obtain ⟨w0, k0, hk8, hv0, t0, ⟨e1, e2⟩, rfl⟩ := hE
  have hwk : k0 = k ∧ (v = -1 ∨ (w0 = w ∧ v = nI w ∧ w < nS s ∧ pw = 100 + w)) := by
    rcases hv0 with ⟨z1, z2⟩ | ⟨z1, z2, z3⟩
    · rcases hw with ⟨y1, y2, y3⟩ | ⟨y1, y2, y3, y4⟩
      · exact ⟨by omega, Or.inl z1⟩
      · rw [y2] at z1; exact absurd z1 (nI_m1 (by omega))
    · rcases hw with ⟨y1, y2, y3⟩ | ⟨y1, y2, y3, y4⟩
      · rw [z2] at y1; exact absurd y1 (nI_m1 (by omega))
      · have : w0 = w := nI_inj8 (by omega) (by omega) (by rw [← z2, y2])
        subst this
        exact ⟨by omega, Or.inr ⟨rfl, z2, z1, y4⟩⟩
  obtain ⟨rfl, hvw⟩ := hwk
  have h1 : ∀ i, (mF t0 0 (nI (nS s + 1))).2 1 i = if i = nS s then v else s.2 1 i := by
    intro i
    rw [mF_2, e2]
    by_cases z : i = nS s <;> simp [z]
  have h2 : ∀ i, (mF t0 0 (nI (nS s + 1))).2 2 i = if i = nS s then nI k0 else s.2 2 i := by
    intro i
    rw [mF_2, e2]
    by_cases z : i = nS s <;> simp [z]
  have h9 : ∀ q, 8 ≤ q → (mF t0 0 (nI (nS s + 1))).2 q = s.2 q := by
    intro q hq
    funext i
    rw [mF_2, e2, if_neg (by omega), if_neg (by omega), if_neg (by omega)]
  have hfd1 : ∀ x j, x < nS s → j < 8 → fdS (mF t0 0 (nI (nS s + 1))) x j = fdS s x j := by
    intro x j hx hj
    unfold fdS
    rw [mF_2]
    simp only [e2]
    rw [if_neg (by omega), if_neg (by omega), if_neg (by omega), if_neg (by omega), if_neg (by omega), if_neg (by omega), if_neg (by omega), if_neg (by omega), if_neg (by omega), if_neg (by omega), if_neg (by omega), if_neg (by omega), if_neg (by omega), if_neg (by omega), if_neg (by omega)]
  have hfd2 : ∀ j, j < k0 → fdS (mF t0 0 (nI (nS s + 1))) (nS s) j = fdS s w0 j := by
    intro j hj
    unfold fdS
    rw [mF_2]
    simp only [e2]
    rw [if_pos (by omega), if_pos (by omega), if_pos (by omega), if_pos (by omega), if_pos (by omega)]
    rw [show 8 * nS s + j - 8 * nS s = j by omega]
  have enS : nS (mF t0 0 (nI (nS s + 1))) = nS s + 1 := by unfold nS; rw [mF_1s]; exact cl _ (by unfold nS at n10; omega)
  have e1' : ∀ q, q ≠ 0 → (mF t0 0 (nI (nS s + 1))).1 q = s.1 q := by intro q hq; rw [mF_1n _ _ hq, e1]
  have enO : nO (mF t0 0 (nI (nS s + 1))) = nO s := by unfold nO; rw [e1' 8 (by omega)]
  have enP : nP (mF t0 0 (nI (nS s + 1))) = nP s := by unfold nP; rw [e1' 33 (by omega)]
  have esh : sh (mF t0 0 (nI (nS s + 1))) = sh s := by funext x; unfold sh; rw [h9 9 (by omega)]
  have enf : ∀ x, x < nS s → nf (mF t0 0 (nI (nS s + 1))) x = nf s x := by intro x hx; unfold nf; rw [h2, if_neg (by omega)]
  have enfn : nf (mF t0 0 (nI (nS s + 1))) (nS s) = k0 := by unfold nf; rw [h2, if_pos rfl]; exact cl _ (by omega)
  have hu1 : ∀ x, x < nS s → (uS (mF t0 0 (nI (nS s + 1))) x ↔ uS s x ∨ v = nI x) := by
    intro x hx
    unfold uS
    rw [enS, enO, h9 9 (by omega)]
    constructor
    · rintro (⟨y, y1, y2⟩ | y)
      · rw [h1] at y2
        by_cases z : y = nS s
        · rw [if_pos z] at y2; exact Or.inr y2
        · rw [if_neg z] at y2; exact Or.inl (Or.inl ⟨y, by omega, y2⟩)
      · exact Or.inl (Or.inr y)
    · rintro ((⟨y, y1, y2⟩ | y) | y)
      · exact Or.inl ⟨y, by omega, by rw [h1, if_neg (by omega)]; exact y2⟩
      · exact Or.inr y
      · exact Or.inl ⟨nS s, by omega, by rw [h1, if_pos rfl]; exact y⟩
  have hun : ¬ uS (mF t0 0 (nI (nS s + 1))) (nS s) := by
    unfold uS
    rw [enS, enO, h9 9 (by omega)]
    rintro (⟨y, y1, y2⟩ | ⟨y, y1, y2⟩)
    · rw [h1] at y2
      by_cases z : y = nS s
      · rw [if_pos z] at y2
        rcases hvw with a | ⟨_, a, b, _⟩
        · rw [a] at y2; exact nI_m1 (by omega) y2.symm
        · rw [a] at y2; have := nI_inj8 (by omega) (by omega) y2; omega
      · rw [if_neg z] at y2
        rcases ivs.2.2.2 y (by omega) with a | ⟨c, c1, c2⟩
        · rw [a] at y2; exact nI_m1 (by omega) y2.symm
        · rw [c2] at y2; have := nI_inj8 (by omega) (by omega) y2; omega
    · rw [(ivo.2.2 y y1).1] at y2
      have := nI_inj8 (by have := (ivo.2.2 y y1).2; omega) (by omega) y2
      have := (ivo.2.2 y y1).2
      omega
  refine ⟨g', ⟨?_, ?_, ?_, ?_, ?_, ?_⟩, S.mo (fun r hr => by unfold KH at hr; rcases hvw with _ | ⟨_, _, _, z⟩ <;> rcases hw with ⟨_, _, z2⟩ | ⟨_, _, _, z2⟩ <;> omega), gr 2 (by omega) (by omega)⟩
  · unfold PX
    rw [e1' 8 (by omega), e1' 33 (by omega), e1' 25 (by omega), mF_1s, gr 3 (by omega) (by omega), gr 4 (by omega) (by omega), gr 5 (by omega) (by omega), gr 6 (by omega) (by omega), gr 7 (by omega) (by omega), gr 8 (by omega) (by omega), gr 9 (by omega) (by omega), gr 12 (by omega) (by omega), gr 16 (by omega) (by omega), gr 17 (by omega) (by omega)]
    exact c2
  · refine ⟨_, by rw [List.length_set]; exact hL, c3, fun x hx => ?_⟩
    rw [enS] at hx
    by_cases z : x = nS s
    · subst z
      refine ⟨by rw [List.getElem?_set_self (by omega)], ?_, L2, hL2, cf, fun j hj => ?_⟩
      · rw [h1, h2, if_pos rfl, if_pos rfl, b01_f hun]
        exact cn
      · rw [enfn] at hj
        obtain ⟨a, a1, a2⟩ := hf j hj
        refine ⟨a, a1, ?_⟩
        rw [hfd2 j hj]
        rcases hvw with z | ⟨z, _⟩
        · rcases hw with ⟨_, y, _⟩ | ⟨y1, y2, _⟩
          · omega
          · rw [z] at y2; exact absurd y2.symm (nI_m1 (by omega))
        · rw [z]; exact a2
    · have hx' : x < nS s := by omega
      have PSx := lq3 x hx'
      refine ⟨by rw [List.getElem?_set_ne (by omega), gr (100 + x) (by omega) (by omega)]; exact l3 x hx', ?_, ?_⟩
      · rw [h1, h2, if_neg z, if_neg z, gr (200 + x) (by omega) (by omega)]
        by_cases y : pw = 100 + x
        · have hxw : x = w := by
            rcases hw with ⟨_, _, a⟩ | ⟨_, _, _, a⟩ <;> omega
          subst hxw
          have hvx : v = nI x := by
            rcases hw with ⟨_, _, a⟩ | ⟨_, a, _⟩
            · omega
            · exact a
          rw [b01_t ((hu1 x hx').mpr (Or.inr hvx))]
          exact cw (by omega)
        · have hvx : ¬ v = nI x := by
            intro e
            rcases hw with ⟨a, _⟩ | ⟨a, b, _, c⟩
            · rw [a] at e; exact nI_m1 (by omega) e.symm
            · rw [b] at e; have := nI_inj8 (by omega) (by omega) e; omega
          rw [b01_i ((hu1 x hx').trans ⟨fun q => q.elim id (fun q => absurd q hvx), Or.inl⟩)]
          exact PSx.2.1.st S ⟨by omega, by omega, by omega, by omega, by omega⟩
      · have n8 := (ivs.2.2.1 x hx').2
        exact (PSx.2.2.st S ⟨by omega, by omega, by omega, by omega, by rcases hw with ⟨_, _, a⟩ | ⟨_, _, _, a⟩ <;> omega⟩ ⟨by omega, by omega, by omega, by omega, by rcases hw with ⟨_, _, a⟩ | ⟨_, _, _, a⟩ <;> omega⟩).sub (by rw [enf x hx']; exact Nat.le_refl _) (fun j hj => hfd1 x j hx' (by rw [enf x hx'] at hj; omega))
  · refine (RO.st hm.2.1 S ⟨by omega, by omega, by omega, by omega, by rcases hw with ⟨_, _, a⟩ | ⟨_, _, _, a⟩ <;> omega⟩ ⟨by omega, by omega, by omega, by omega, by rcases hw with ⟨_, _, a⟩ | ⟨_, _, _, a⟩ <;> omega⟩ (fun r _ _ => ⟨by omega, by omega, by omega, by omega, by rcases hw with ⟨_, _, a⟩ | ⟨_, _, _, a⟩ <;> omega⟩)).co enO (fun o _ => by rw [h9 9 (by omega)]) (fun o ho => enf _ (ivo.2.2 o ho).2) (fun o f ho hf => ?_)
    have hs := (ivo.2.2 o ho).2
    have n8 := (ivs.2.2.1 _ hs).2
    have h3 : (mF t0 0 (nI (nS s + 1))).2 3 (8 * sh s o + f) = s.2 3 (8 * sh s o + f) := by
      rw [mF_2, e2, if_neg (by omega), if_neg (by omega), if_neg (by omega)]
    refine ⟨by unfold rowN; rw [esh, h3, h9 10 (by omega)], fun j _ => by unfold rowF; rw [esh, h3, h9 10 (by omega), h9 11 (by omega)]⟩
  · exact (RP.st hm.2.2.1 S ⟨by omega, by omega, by omega, by omega, by rcases hw with ⟨_, _, a⟩ | ⟨_, _, _, a⟩ <;> omega⟩ (fun r _ _ => ⟨by omega, by omega, by omega, by omega, by rcases hw with ⟨_, _, a⟩ | ⟨_, _, _, a⟩ <;> omega⟩)).co enP (fun p _ => ⟨by rw [h9 34 (by omega)], fun j _ => ⟨by rw [h9 35 (by omega)], by rw [h9 36 (by omega)]⟩⟩)
  · exact (RW.st hm.2.2.2 S ⟨by omega, by omega, by omega, by omega, by rcases hw with ⟨_, _, a⟩ | ⟨_, _, _, a⟩ <;> omega⟩ (fun r _ _ => ⟨by omega, by omega, by omega, by omega, by rcases hw with ⟨_, _, a⟩ | ⟨_, _, _, a⟩ <;> omega⟩)).co (e1' 25 (by omega)) (h9 26 (by omega)) (h9 27 (by omega)) (h9 28 (by omega)) (h9 29 (by omega)) (h9 30 (by omega)) (h9 31 (by omega))
  · exact RZ.st S (fun r _ _ => ⟨by omega, by omega, by omega, by omega, by rcases hw with ⟨_, _, a⟩ | ⟨_, _, _, a⟩ <;> omega⟩)
theorem Stq.two {g : Gm} {h : Hp} {q q2 : Nat} (r r2 : Nat) (c c2 : Nat × List Value) (hq : h q = none) (hq2 : h q2 = none) (ne : q ≠ q2) (nr : r ≠ r2) : Stq g h (fun x => x ≠ r ∧ x ≠ r2) (ug (ug g q2 r2) q r) (hu (hu h q2 c2) q c) ∧ Cl (ug (ug g q2 r2) q r) (hu (hu h q2 c2) q c) r c ∧ Cl (ug (ug g q2 r2) q r) (hu (hu h q2 c2) q c) r2 c2 := by
  have S1 : Stq g h (fun x => x ≠ r2) (ug g q2 r2) (hu h q2 c2) := Stq.fresh hq2 r2 c2
  have S2 : Stq (ug g q2 r2) (hu h q2 c2) (fun x => x ≠ r) (ug (ug g q2 r2) q r) (hu (hu h q2 c2) q c) := Stq.fresh (by rw [hu_ne _ _ ne]; exact hq) r c
  exact ⟨(S1.mo (fun x hx => hx.2)).tr (S2.mo (fun x hx => hx.1)), Cl.fresh _ _ _ _ _, (Cl.fresh g h q2 r2 c2).st S2 (Ne.symm nr)⟩
theorem tl_shape (G : Gk) {g : Gm} {h1 : Hp} {n q : Nat} {v b c d : Int32} {L ws : List Value} (hX : h1 (g.2 2) = some (12, xfs g (nI n) b c d)) (h3 : h1 (g.2 3) = some (24, L)) (hq : h1 q = some (8, ws)) (hL : L.length = 10) (hn : n < 10) :
    V G fe_shape (pI fun r h' => r = nI n ∧ h' = hu (hu h1 (g.2 3) (24, L.set n (.ref q))) (g.2 2) (12, xfs g (nI (n + 1)) b c d)) h1 0 0 62 [some (.ref (g.2 2)), some (.int v), some (.ref q)] [] := by
  have n23 : g.2 2 ≠ g.2 3 := kne hX h3 (by decide)
  have hX2 : hu h1 (g.2 3) (24, L.set n (.ref q)) (g.2 2) = some (12, xfs g (nI n) b c d) := by rw [hu_ne _ _ n23]; exact hX
  refine V_aload_n d_fe_shape_62 rfl rfl ?_
  refine V_getf d_fe_shape_63 fl_fe_11 (by first | assumption | exact X.1 | exact hu_self _ _ _ | (simp (disch := first | assumption | (apply Ne.symm; assumption)) only [hu_self, hu_ne]; assumption)) rfl ?_
  refine V_aload_n d_fe_shape_66 rfl rfl ?_
  refine V_getf d_fe_shape_67 fl_fe_72 (by first | assumption | exact X.1 | exact hu_self _ _ _ | (simp (disch := first | assumption | (apply Ne.symm; assumption)) only [hu_self, hu_ne]; assumption)) rfl ?_
  refine V_aload_n d_fe_shape_70 rfl rfl ?_
  refine V_aast n d_fe_shape_71 h3 hq rfl rfl (by omega) (by omega) ?_
  refine V_aload_n d_fe_shape_72 rfl rfl ?_
  refine V_dup d_fe_shape_73 rfl ?_
  refine V_getf d_fe_shape_74 fl_fe_72 (by first | assumption | exact X.1 | exact hu_self _ _ _ | (simp (disch := first | assumption | (apply Ne.symm; assumption)) only [hu_self, hu_ne]; assumption)) rfl ?_
  refine V_dup_x1 d_fe_shape_77 rfl rfl ?_
  refine V_iconst (v := 1) d_fe_shape_78 (by decide) ?_
  refine V_iadd d_fe_shape_79 ?_
  rw [nI_1]
  refine V_putf d_fe_shape_80 fp_fe_72 rfl rfl (by first | assumption | exact X.1 | exact hu_self _ _ _ | (simp (disch := first | assumption | (apply Ne.symm; assumption)) only [hu_self, hu_ne]; assumption)) ?_
  refine V_ireturn d_fe_shape_83 rfl ?_
  exact ⟨_, rfl, rfl, rfl⟩
theorem tlA_shape (G : Gk) {g : Gm} {h : Hp} {s : Mem} (R : RB g h s) (ivs : IvS s) (ivo : IvO s) (hm : Sm s) {v : Int32} (hv : v = -1) : V G fe_shape (pI fun r h' => ∀ r' t, R_shp s v r' t → r = r' ∧ Nx g h h' t) h 2 12 16 [some (.ref (g.2 2)), some (.int v), none] [] := by
  have X := R.1
  obtain ⟨L, l1, l2, l3⟩ := R.2.1
  have n10 := ivs.2.1
  have hX0 : h (g.2 2) = some (12, xfs g (nI (nS s)) (s.1 8) (s.1 33) (s.1 25)) := by have := X.1; rw [ivs.1] at this; exact this
  skip
  refine V_aload_n d_fe_shape_16 rfl rfl ?_
  refine V_getf d_fe_shape_17 fl_fe_72 hX0 rfl ?_
  refine V_bipush (v := 10) d_fe_shape_20 (by decide) ?_
  refine V_icmp_lt d_fe_shape_22 (fun c22 => ?_) (fun c22 => ?_)
  · skip
    have hlt : nS s < 10 := by rcases Nat.lt_or_ge (nS s) 10 with z | z; exact z; exact absurd c22 (by rw [show nS s = 10 by omega]; decide)
    refine V.need (cr := (0 + 1) + 1) (sr := (0 + 8) + 4) ?_ (by decide) (by decide)
    refine V_new (M := fe_shape) d_fe_shape_28 nw_fe_9 (fun q28 hq28 => ?_)
    refine V_dup d_fe_shape_31 rfl ?_
    refine V_iload_n d_fe_shape_32 rfl rfl ?_
    refine V_callI (N := sh_init) d_fe_shape_33 ml_fe_76 mdf_sh_init wi_sh_init rfl rfl (sp_sh_init G (hu_self _ _ _) v) rfl rfl (by decide) (by decide) (Nat.le_of_ble_eq_true rfl) rfl rfl (kN fun h33 ⟨q2, hq2, e33⟩ => ?_)
    have nqq : q28 ≠ q2 := fun z => by rw [← z, hu_self] at hq2; cases hq2
    rw [hu_ne _ _ (Ne.symm nqq)] at hq2
    have e33' : h33 = hu (hu h q2 (22, List.replicate 8 .null)) q28 (8, [.int v, .ref q2, .int 0, .int 0]) := by rw [e33]; funext z; unfold hu; split; rfl; split; rfl; rfl
    subst e33'
    have nXq : g.2 2 ≠ q28 := fne hX0 hq28
    have nXq2 : g.2 2 ≠ q2 := fne hX0 hq2
    have n3q : g.2 3 ≠ q28 := fne l2.1 hq28
    have n3q2 : g.2 3 ≠ q2 := fne l2.1 hq2
    have n23 : g.2 2 ≠ g.2 3 := X.ne l2 (by omega)
    refine V_astore_n d_fe_shape_36 rfl (by decide) rfl rfl ?_
    dsimp only [List.set]
    refine V_iload_n d_fe_shape_37 rfl rfl ?_
    refine V_iconst (v := -1) d_fe_shape_38 (by decide) ?_
    refine V_icmp_eq d_fe_shape_39 (fun c39 => ?_) (fun c39 => ?_)
    · skip
      refine (tl_shape G (by rw [hu_ne _ _ nXq, hu_ne _ _ nXq2]; exact hX0) (by rw [hu_ne _ _ n3q, hu_ne _ _ n3q2]; exact l2.1) (hu_self _ _ _) l1 hlt).mono (fun x h' hp => ?_)
      obtain ⟨r, e, er, eh⟩ := hp
      refine ⟨r, e, fun r' t hR => ?_⟩
      obtain ⟨w1, w2⟩ := (hR.t (Or.inl hv)).f (by omega)
      refine ⟨by rw [er, w1], ?_⟩
      obtain ⟨Sa, Ca, Cb⟩ := Stq.two (g := g) (100 + nS s) (200 + nS s) (8, [.int v, .ref q2, .int 0, .int 0]) (22, List.replicate 8 .null) hq28 hq2 nqq (by omega)
      have g2 : ∀ r, r ≠ 100 + nS s → r ≠ 200 + nS s → (ug (ug g q2 (200 + nS s)) q28 (100 + nS s)).2 r = g.2 r := fun r r1 r2 => by rw [ug_2n _ _ r1, ug_2n _ _ r2]
      have ga : (ug (ug g q2 (200 + nS s)) q28 (100 + nS s)).2 (100 + nS s) = q28 := ug_2 _ _ _
      have gb : (ug (ug g q2 (200 + nS s)) q28 (100 + nS s)).2 (200 + nS s) = q2 := by rw [ug_2n _ _ (by omega), ug_2]
      have C3 := l2.st Sa ⟨by omega, by omega⟩
      have Cx := Cl.st X Sa ⟨by omega, by omega⟩
      have S3 := Stq.put (h := hu (hu h q2 (22, List.replicate 8 .null)) q28 (8, [.int v, .ref q2, .int 0, .int 0])) C3.2 (24, L.set (nS s) (.ref q28))
      have C3' := Cl.put (h := hu (hu h q2 (22, List.replicate 8 .null)) q28 (8, [.int v, .ref q2, .int 0, .int 0])) C3.2 (24, L.set (nS s) (.ref q28))
      have Cx2 := Cx.st S3 (by omega)
      have S4 := Stq.put (h := hu (hu (hu h q2 (22, List.replicate 8 .null)) q28 (8, [.int v, .ref q2, .int 0, .int 0])) ((ug (ug g q2 (200 + nS s)) q28 (100 + nS s)).2 3) (24, L.set (nS s) (.ref q28))) Cx2.2 (12, xfs g (nI (nS s + 1)) (s.1 8) (s.1 33) (s.1 25))
      have Cx3 := Cl.put (h := hu (hu (hu h q2 (22, List.replicate 8 .null)) q28 (8, [.int v, .ref q2, .int 0, .int 0])) ((ug (ug g q2 (200 + nS s)) q28 (100 + nS s)).2 3) (24, L.set (nS s) (.ref q28))) Cx2.2 (12, xfs g (nI (nS s + 1)) (s.1 8) (s.1 33) (s.1 25))
      rw [g2 3 (by omega) (by omega)] at S3 S4 C3' Cx3
      rw [g2 2 (by omega) (by omega)] at S4 Cx3
      rw [← eh] at S4 Cx3
      refine R.shp (g' := ug (ug g q2 (200 + nS s)) q28 (100 + nS s)) ivs ivo hm hlt l1 (fun i hi => (l3 i hi).1) w2 (w := 0) (k := 0) (pw := 100 + nS s) (Or.inl ⟨hv, rfl, rfl⟩) (((Sa.mo (fun r hr => ⟨hr.2.2.1, hr.2.2.2.1⟩)).tr (S3.mo (fun r hr => hr.2.1))).tr (S4.mo (fun r hr => hr.1))) g2 Cx3 ?_ ?_ (List.length_replicate) ((Cb.st S3 (by omega)).st S4 (by omega)) (fun j hj => by omega) (fun z => absurd rfl z)
      · (rw [ga]; exact C3'.st S4 (by omega))
      · (rw [gb]; exact (Ca.st S3 (by omega)).st S4 (by omega))
    · skip
      exact absurd hv c39
  · skip
    refine V_bipush (v := -4) d_fe_shape_25 (by decide) ?_
    refine V_ireturn d_fe_shape_27 rfl ?_
    refine ⟨_, rfl, fun r' t hR => ?_⟩
    have e10 : nS s = 10 := (by rcases Nat.lt_or_ge (nS s) 10 with z | z; exact absurd (nI_lt z (by omega)) c22; omega)
    obtain ⟨w1, w2⟩ := (hR.t (Or.inl hv)).t e10
    exact ⟨w1.symm, Nx.rf R w2.co⟩
theorem tlB_shape (G : Gk) {g : Gm} {h : Hp} {s : Mem} (R : RB g h s) (ivs : IvS s) (ivo : IvO s) (hm : Sm s) {v : Int32} {w : Nat} (hw : w < nS s) (hv : v = nI w) : V G fe_shape (pI fun r h' => ∀ r' t, R_shp s v r' t → r = r' ∧ Nx g h h' t) h 2 12 16 [some (.ref (g.2 2)), some (.int v), none] [] := by
  have X := R.1
  obtain ⟨L, l1, l2, l3⟩ := R.2.1
  have n10 := ivs.2.1
  have hX0 : h (g.2 2) = some (12, xfs g (nI (nS s)) (s.1 8) (s.1 33) (s.1 25)) := by have := X.1; rw [ivs.1] at this; exact this
  obtain ⟨L1, m1, m2, m3⟩ := (l3 w hw).2.2
  have n8 := (ivs.2.2.1 w hw).2
  have hw1 := (l3 w hw).2.at ivs hw
  refine V_aload_n d_fe_shape_16 rfl rfl ?_
  refine V_getf d_fe_shape_17 fl_fe_72 hX0 rfl ?_
  refine V_bipush (v := 10) d_fe_shape_20 (by decide) ?_
  refine V_icmp_lt d_fe_shape_22 (fun c22 => ?_) (fun c22 => ?_)
  · skip
    have hlt : nS s < 10 := by rcases Nat.lt_or_ge (nS s) 10 with z | z; exact z; exact absurd c22 (by rw [show nS s = 10 by omega]; decide)
    refine V.need (cr := (0 + 1) + 1) (sr := (0 + 8) + 4) ?_ (by decide) (by decide)
    refine V_new (M := fe_shape) d_fe_shape_28 nw_fe_9 (fun q28 hq28 => ?_)
    refine V_dup d_fe_shape_31 rfl ?_
    refine V_iload_n d_fe_shape_32 rfl rfl ?_
    refine V_callI (N := sh_init) d_fe_shape_33 ml_fe_76 mdf_sh_init wi_sh_init rfl rfl (sp_sh_init G (hu_self _ _ _) v) rfl rfl (by decide) (by decide) (Nat.le_of_ble_eq_true rfl) rfl rfl (kN fun h33 ⟨q2, hq2, e33⟩ => ?_)
    have nqq : q28 ≠ q2 := fun z => by rw [← z, hu_self] at hq2; cases hq2
    rw [hu_ne _ _ (Ne.symm nqq)] at hq2
    have e33' : h33 = hu (hu h q2 (22, List.replicate 8 .null)) q28 (8, [.int v, .ref q2, .int 0, .int 0]) := by rw [e33]; funext z; unfold hu; split; rfl; split; rfl; rfl
    subst e33'
    have nXq : g.2 2 ≠ q28 := fne hX0 hq28
    have nXq2 : g.2 2 ≠ q2 := fne hX0 hq2
    have n3q : g.2 3 ≠ q28 := fne l2.1 hq28
    have n3q2 : g.2 3 ≠ q2 := fne l2.1 hq2
    have n23 : g.2 2 ≠ g.2 3 := X.ne l2 (by omega)
    refine V_astore_n d_fe_shape_36 rfl (by decide) rfl rfl ?_
    dsimp only [List.set]
    refine V_iload_n d_fe_shape_37 rfl rfl ?_
    refine V_iconst (v := -1) d_fe_shape_38 (by decide) ?_
    refine V_icmp_eq d_fe_shape_39 (fun c39 => ?_) (fun c39 => ?_)
    · skip
      exact absurd (hv.symm.trans c39) (nI_m1 (by omega))
    · skip
      refine V_aload_n d_fe_shape_42 rfl rfl ?_
      refine V_aload_n d_fe_shape_43 rfl rfl ?_
      refine V_getf d_fe_shape_44 fl_fe_11 (by rw [hu_ne _ _ nXq, hu_ne _ _ nXq2]; exact hX0) rfl ?_
      refine V_iload_n d_fe_shape_47 rfl rfl ?_
      refine V_aald w d_fe_shape_48 (by rw [hu_ne _ _ n3q, hu_ne _ _ n3q2]; exact l2.1) (by decide) (by decide) hv (by omega) (l3 w hw).1 ?_
      have nwq : g.2 (100 + w) ≠ q28 := fne hw1 hq28
      have nwq2 : g.2 (100 + w) ≠ q2 := fne hw1 hq2
      have nfq : g.2 (200 + w) ≠ q28 := fne m2.1 hq28
      have nfq2 : g.2 (200 + w) ≠ q2 := fne m2.1 hq2
      refine V_callV (N := sh_inherit) d_fe_shape_49 ml_fe_79 mdf_sh_inherit wi_sh_inherit wz_sh_inherit (sp_sh_inherit G (ws := L1) (hu_self _ _ _) (by rw [hu_ne _ _ (Ne.symm nqq), hu_self]) (List.length_replicate) (by rw [hu_ne _ _ nwq, hu_ne _ _ nwq2]; exact hw1) (by rw [hu_ne _ _ nfq, hu_ne _ _ nfq2]; exact m2.1) nwq nfq2 n8 (fun j hj => by obtain ⟨a, a1, a2⟩ := m3 j hj; exact ⟨a, _, a1, by rw [hu_ne _ _ (fne a2.1 hq28), hu_ne _ _ (fne a2.1 hq2)]; exact a2.1⟩)) (hu_self _ _ _) ⟨_, rfl, rfl⟩ rfl rfl (by decide) (by decide) (Nat.le_of_ble_eq_true rfl) rfl rfl (kN fun h49 ⟨L2, k1, k2, e49⟩ => ?_)
      have e49' : h49 = hu (hu h q2 (22, L2)) q28 (8, [.int v, .ref q2, .int (nI (nf s w)), .int 0]) := by rw [e49]; funext z; unfold hu; split; rfl; split; rfl; rfl
      subst e49'
      refine V_aload_n d_fe_shape_52 rfl rfl ?_
      refine V_getf d_fe_shape_53 fl_fe_11 (by rw [hu_ne _ _ nXq, hu_ne _ _ nXq2]; exact hX0) rfl ?_
      refine V_iload_n d_fe_shape_56 rfl rfl ?_
      refine V_aald w d_fe_shape_57 (by rw [hu_ne _ _ n3q, hu_ne _ _ n3q2]; exact l2.1) (by decide) (by decide) hv (by omega) (l3 w hw).1 ?_
      refine V_iconst (v := 1) d_fe_shape_58 (by decide) ?_
      refine V_putf d_fe_shape_59 fp_fe_83 rfl rfl (by rw [hu_ne _ _ nwq, hu_ne _ _ nwq2]; exact hw1) ?_
      have nXw : g.2 2 ≠ g.2 (100 + w) := X.ne (l3 w hw).2.1 (by omega)
      have n3w : g.2 3 ≠ g.2 (100 + w) := l2.ne (l3 w hw).2.1 (by omega)
      refine (tl_shape G (by rw [hu_ne _ _ nXw, hu_ne _ _ nXq, hu_ne _ _ nXq2]; exact hX0) (by rw [hu_ne _ _ n3w, hu_ne _ _ n3q, hu_ne _ _ n3q2]; exact l2.1) (by rw [hu_ne _ _ (Ne.symm nwq), hu_self]) l1 hlt).mono (fun x h' hp => ?_)
      obtain ⟨r, e, er, eh⟩ := hp
      refine ⟨r, e, fun r' t hR => ?_⟩
      obtain ⟨w1, w2⟩ := (hR.t (Or.inr ⟨w, hw, hv⟩)).f (by omega)
      refine ⟨by rw [er, w1], ?_⟩
      obtain ⟨Sa, Ca, Cb⟩ := Stq.two (g := g) (100 + nS s) (200 + nS s) (8, [.int v, .ref q2, .int (nI (nf s w)), .int 0]) (22, L2) hq28 hq2 nqq (by omega)
      have g2 : ∀ r, r ≠ 100 + nS s → r ≠ 200 + nS s → (ug (ug g q2 (200 + nS s)) q28 (100 + nS s)).2 r = g.2 r := fun r r1 r2 => by rw [ug_2n _ _ r1, ug_2n _ _ r2]
      have ga : (ug (ug g q2 (200 + nS s)) q28 (100 + nS s)).2 (100 + nS s) = q28 := ug_2 _ _ _
      have gb : (ug (ug g q2 (200 + nS s)) q28 (100 + nS s)).2 (200 + nS s) = q2 := by rw [ug_2n _ _ (by omega), ug_2]
      have Cw := (l3 w hw).2.1.st Sa ⟨by omega, by omega⟩
      have S2 := Stq.put (h := hu (hu h q2 (22, L2)) q28 (8, [.int v, .ref q2, .int (nI (nf s w)), .int 0])) Cw.2 (8, [.int (s.2 1 w), .ref (g.2 (200 + w)), .int (nI (nf s w)), .int 1])
      have Cw' := Cl.put (h := hu (hu h q2 (22, L2)) q28 (8, [.int v, .ref q2, .int (nI (nf s w)), .int 0])) Cw.2 (8, [.int (s.2 1 w), .ref (g.2 (200 + w)), .int (nI (nf s w)), .int 1])
      rw [g2 (100 + w) (by omega) (by omega)] at S2 Cw'
      have C3 := (l2.st Sa ⟨by omega, by omega⟩).st S2 (by omega)
      have Cx := (Cl.st X Sa ⟨by omega, by omega⟩).st S2 (by omega)
      have S3 := Stq.put (h := hu (hu (hu h q2 (22, L2)) q28 (8, [.int v, .ref q2, .int (nI (nf s w)), .int 0])) (g.2 (100 + w)) (8, [.int (s.2 1 w), .ref (g.2 (200 + w)), .int (nI (nf s w)), .int 1])) C3.2 (24, L.set (nS s) (.ref q28))
      have C3' := Cl.put (h := hu (hu (hu h q2 (22, L2)) q28 (8, [.int v, .ref q2, .int (nI (nf s w)), .int 0])) (g.2 (100 + w)) (8, [.int (s.2 1 w), .ref (g.2 (200 + w)), .int (nI (nf s w)), .int 1])) C3.2 (24, L.set (nS s) (.ref q28))
      have Cx2 := Cx.st S3 (by omega)
      rw [g2 3 (by omega) (by omega)] at S3 C3' Cx2
      have S4 := Stq.put (h := hu (hu (hu (hu h q2 (22, L2)) q28 (8, [.int v, .ref q2, .int (nI (nf s w)), .int 0])) (g.2 (100 + w)) (8, [.int (s.2 1 w), .ref (g.2 (200 + w)), .int (nI (nf s w)), .int 1])) (g.2 3) (24, L.set (nS s) (.ref q28))) Cx2.2 (12, xfs g (nI (nS s + 1)) (s.1 8) (s.1 33) (s.1 25))
      have Cx3 := Cl.put (h := hu (hu (hu (hu h q2 (22, L2)) q28 (8, [.int v, .ref q2, .int (nI (nf s w)), .int 0])) (g.2 (100 + w)) (8, [.int (s.2 1 w), .ref (g.2 (200 + w)), .int (nI (nf s w)), .int 1])) (g.2 3) (24, L.set (nS s) (.ref q28))) Cx2.2 (12, xfs g (nI (nS s + 1)) (s.1 8) (s.1 33) (s.1 25))
      rw [g2 2 (by omega) (by omega)] at S4 Cx3
      replace eh : h' = hu (hu (hu (hu (hu h q2 (22, L2)) q28 (8, [.int v, .ref q2, .int (nI (nf s w)), .int 0])) (g.2 (100 + w)) (8, [.int (s.2 1 w), .ref (g.2 (200 + w)), .int (nI (nf s w)), .int 1])) (g.2 3) (24, L.set (nS s) (.ref q28))) (g.2 2) (12, xfs g (nI (nS s + 1)) (s.1 8) (s.1 33) (s.1 25)) := eh
      rw [← eh] at S4 Cx3
      have St : Stq g h (fun r => r ≠ 2 ∧ r ≠ 3 ∧ r ≠ 100 + nS s ∧ r ≠ 200 + nS s ∧ r ≠ 100 + w) (ug (ug g q2 (200 + nS s)) q28 (100 + nS s)) h' := ((((Sa.mo (fun r hr => ⟨hr.2.2.1, hr.2.2.2.1⟩)).tr (S2.mo (fun r hr => hr.2.2.2.2))).tr (S3.mo (fun r hr => hr.2.1))).tr (S4.mo (fun r hr => hr.1)))
      refine R.shp (g' := ug (ug g q2 (200 + nS s)) q28 (100 + nS s)) ivs ivo hm hlt l1 (fun i hi => (l3 i hi).1) w2 (w := w) (k := nf s w) (pw := 100 + w) (Or.inr ⟨hw, hv, rfl, rfl⟩) St g2 Cx3 ?_ ?_ k1 (((Cb.st S2 (by omega)).st S3 (by omega)).st S4 (by omega)) (fun j hj => ?_) (fun z => ?_)
      · (rw [ga]; exact C3'.st S4 (by omega))
      · (rw [gb]; exact ((Ca.st S2 (by omega)).st S3 (by omega)).st S4 (by omega))
      · (obtain ⟨a, a1, a2⟩ := m3 j hj; exact ⟨a, by rw [k2 j hj]; exact a1, a2.st St ⟨by omega, by omega, by omega, by omega, by omega⟩⟩)
      · (have := (Cw'.st S3 (by omega)).st S4 (by omega); rw [← (ivs.2.2.1 w hw).1] at this; exact this)
  · skip
    refine V_bipush (v := -4) d_fe_shape_25 (by decide) ?_
    refine V_ireturn d_fe_shape_27 rfl ?_
    refine ⟨_, rfl, fun r' t hR => ?_⟩
    have e10 : nS s = 10 := (by rcases Nat.lt_or_ge (nS s) 10 with z | z; exact absurd (nI_lt z (by omega)) c22; omega)
    obtain ⟨w1, w2⟩ := (hR.t (Or.inr ⟨w, hw, hv⟩)).t e10
    exact ⟨w1.symm, Nx.rf R w2.co⟩
theorem sp_fe_shape (G : Gk) {g : Gm} {h : Hp} {s : Mem} (R : RB g h s) (ivs : IvS s) (ivo : IvO s) (hm : Sm s) (v : Int32) : Ct G fe_shape [.ref (g.2 2), .int v] h (pI fun r h' => ∀ r' t, R_shp s v r' t → r = r' ∧ Nx g h h' t) := by
  have X := R.1
  refine Ct.ofL (M := fe_shape) (lv := [some (.ref (g.2 2)), some (.int v), none]) mdf_fe_shape rfl (Nat.le_of_ble_eq_true rfl) rfl ?_
  refine V_iload_n d_fe_shape_0 rfl rfl ?_
  refine V_iconst (v := -1) d_fe_shape_1 (by decide) ?_
  refine V_icmp_eq d_fe_shape_2 (fun c2 => ?_) (fun c2 => ?_)
  · skip
    exact tlA_shape G R ivs ivo hm c2
  · skip
    refine V_aload_n d_fe_shape_5 rfl rfl ?_
    refine V_iload_n d_fe_shape_6 rfl rfl ?_
    refine V_callV (N := fe_isShape) d_fe_shape_7 ml_fe_68 mdf_fe_isShape wi_fe_isShape wz_fe_isShape (sp_fe_isShape G X ivs _) (by first | assumption | exact X.1 | exact hu_self _ _ _ | (simp (disch := first | assumption | (apply Ne.symm; assumption)) only [hu_self, hu_ne]; assumption)) ⟨_, rfl, rfl⟩ rfl rfl (by decide) (by decide) (Nat.le_of_ble_eq_true rfl) rfl rfl (kI fun r7 h7 ⟨e7, f7⟩ => ?_)
    subst e7 f7
    refine V_if_ne d_fe_shape_10 (fun c10 => ?_) (fun c10 => ?_)
    · skip
      obtain ⟨w, hw, hv⟩ := b01_ne c10
      exact tlB_shape G R ivs ivo hm hw hv
    · skip
      refine V_bipush (v := -2) d_fe_shape_13 (by decide) ?_
      refine V_ireturn d_fe_shape_15 rfl ?_
      refine ⟨_, rfl, fun r' t hR => ?_⟩
      obtain ⟨w1, w2⟩ := hR.f (fun q => q.elim c2 (b01_e c10))
      exact ⟨w1.symm, Nx.rf R w2.co⟩
