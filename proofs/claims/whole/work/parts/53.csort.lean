/-! inOrder; isLocked, wouldLoop -/
theorem upd_self' {w : Nat → Int32} {j : Nat} {x : Int32} (h : w j = x) : upd w j x = w := by
  funext k
  by_cases e : k = j
  · subst e; rw [pk_us, h]
  · rw [pk_un e]
theorem upd_upd {w : Nat → Int32} {j : Nat} {x y : Int32} : upd (upd w j x) j y = upd w j y := by
  funext k
  by_cases e : k = j
  · subst e; rw [pk_us, pk_us]
  · rw [pk_un e, pk_un e, pk_un e]
theorem insF_upd (fl W O : Int32) : ∀ (j : Nat) (w p : Nat → Int32) (x y : Int32), insF fl W O j (upd w j x) (upd p j y) = insF fl W O j w p
  | 0, w, p, x, y => by rw [insF, insF, upd_upd, upd_upd]
  | j + 1, w, p, x, y => by
    rw [insF, insF, pk_un (by omega), pk_un (by omega), upd_upd, upd_upd, upd_upd, upd_upd]
theorem lp_ordC (G : Gk) {g : Gm} {h0 : Hp} {x ra n k b : Nat} {fl W O : Int32} {wF pF : Nat → Int32} (hn : n ≤ 6) (hk : k < n) (post : Option Value → Hp → Prop)
    (K : ∀ (h : Hp) (l7 : Option Value), Cl g h 28 (20, arrL n pF) → Cl g h 29 (20, arrL n wF) → Stq g h0 (fun r => r ≠ 28 ∧ r ≠ 29) g h → V G fe_inOrder post h 0 0 104 [some (.ref x), some (.ref ra), some (.int (nI b)), some (.int fl), some (.ref (g.2 28)), some (.ref (g.2 29)), some (.int (nI k)), l7] []) :
    ∀ (j : Nat) (h : Hp) (w p : Nat → Int32), j ≤ k → w j = W → p j = O → insF fl W O j w p = (wF, pF) → Cl g h 28 (20, arrL n p) → Cl g h 29 (20, arrL n w) → Stq g h0 (fun r => r ≠ 28 ∧ r ≠ 29) g h →
    V G fe_inOrder post h 0 0 60 [some (.ref x), some (.ref ra), some (.int (nI b)), some (.int fl), some (.ref (g.2 28)), some (.ref (g.2 29)), some (.int (nI k)), some (.int (nI j))] [] := by
  intro j
  induction j with
  | zero =>
    intro h w p hj e1 e2 he c28 c29 S
    rw [insF, upd_self' e1, upd_self' e2] at he
    cases he
    refine V_iload d_fe_inOrder_60 rfl ?_
    refine V_if_le d_fe_inOrder_62 (fun c62 => ?_) (fun c62 => ?_)
    · skip
      exact K h _ c28 c29 S
    · skip
      exact absurd (by decide) c62
  | succ j ih =>
    intro h w p hj e1 e2 he c28 c29 S
    rw [insF] at he
    refine V_iload d_fe_inOrder_60 rfl ?_
    refine V_if_le d_fe_inOrder_62 (fun c62 => ?_) (fun c62 => ?_)
    · skip
      exact absurd (nI_lt (a := 0) (b := j + 1) (by omega) (by omega)) (Int32.not_lt.mpr c62)
    · skip
      refine V_aload d_fe_inOrder_65 rfl ?_
      refine V_iload d_fe_inOrder_67 rfl ?_
      refine V_iald (j + 1) d_fe_inOrder_69 c29.1 rfl (by omega) (arrL_get _ (by omega)) ?_
      refine V_aload d_fe_inOrder_70 rfl ?_
      refine V_iload d_fe_inOrder_72 rfl ?_
      refine V_iconst (v := 1) d_fe_inOrder_74 (by decide) ?_
      refine V_isub d_fe_inOrder_75 ?_
      rw [ixm (by omega)]
      refine V_iald j d_fe_inOrder_76 c29.1 rfl (by omega) (arrL_get _ (by omega)) ?_
      refine V_iload_n d_fe_inOrder_77 rfl rfl ?_
      refine V_callS (N := fe_goesAhead) d_fe_inOrder_78 ml_fe_325 mdf_fe_goesAhead ws_fe_goesAhead (sp_fe_goesAhead G h _ _ _) rfl rfl (by decide) (by decide) (Nat.le_of_ble_eq_true rfl) rfl rfl (kI fun r78 h78 ⟨e78, f78⟩ => ?_)
      subst e78 f78
      rw [e1]
      refine V_if_eq d_fe_inOrder_81 (fun c81 => ?_) (fun c81 => ?_)
      · skip
        rw [if_neg (b01_e c81), upd_self' e1, upd_self' e2] at he
        cases he
        exact K h _ c28 c29 S
      · skip
        refine V_aload d_fe_inOrder_84 rfl ?_
        refine V_iload d_fe_inOrder_86 rfl ?_
        refine V_callS (N := fe_swap) d_fe_inOrder_88 ml_fe_329 mdf_fe_swap ws_fe_swap (sp_fe_swap G c29.1 (j := j) (by omega) (by omega)) rfl rfl (by decide) (by decide) (Nat.le_of_ble_eq_true rfl) rfl rfl (kN fun h88 e88 => ?_)
        subst e88
        have S1 := Stq.put (h := h) c29.2 (20, arrL n (upd (upd w (j + 1) (w j)) j (w (j + 1))))
        have c28' := c28.st S1 (by omega)
        refine V_aload d_fe_inOrder_91 rfl ?_
        refine V_iload d_fe_inOrder_93 rfl ?_
        refine V_callS (N := fe_swap) d_fe_inOrder_95 ml_fe_329 mdf_fe_swap ws_fe_swap (sp_fe_swap G c28'.1 (j := j) (by omega) (by omega)) rfl rfl (by decide) (by decide) (Nat.le_of_ble_eq_true rfl) rfl rfl (kN fun h95 e95 => ?_)
        subst e95
        refine V_iinc (v := _) d_fe_inOrder_98 rfl rfl (by decide) rfl rfl ?_
        dsimp only [List.set]
        refine V_goto d_fe_inOrder_101 ?_
        rw [show nI (j + 1) + Int32.ofInt (-1) = nI j from by rw [show Int32.ofInt (-1) = -1 from rfl, ← Int32.sub_eq_add_neg, ixm (by omega)]; rfl]
        have S2 := Stq.put (h := hu h (g.2 29) (20, arrL n (upd (upd w (j + 1) (w j)) j (w (j + 1))))) c28'.2 (20, arrL n (upd (upd p (j + 1) (p j)) j (p (j + 1))))
        rw [if_pos (b01_ne c81), ← insF_upd fl W O j _ _ (w (j + 1)) (p (j + 1))] at he
        exact ih _ _ _ (by omega) (by rw [pk_us, e1]) (by rw [pk_us, e2]) he (Cl.put c28'.2 _) ((Cl.put c29.2 _).st S2 (by omega)) ((S.tr (S1.mo (fun r hr => hr.2))).tr (S2.mo (fun r hr => hr.1)))
theorem lp_ordB (G : Gk) {g : Gm} {h0 : Hp} {x ra n b : Nat} {fl : Int32} {w0 p0 : Nat → Int32} (hn : n ≤ 6) (post : Option Value → Hp → Prop)
    (K : ∀ (h : Hp), Cl g h 28 (20, arrL n (srtF fl w0 p0 n).2) → Stq g h0 (fun r => r ≠ 28 ∧ r ≠ 29) g h → post (some (.ref (g.2 28))) h) :
    ∀ (c k : Nat) (h : Hp) (l7 : Option Value), k + c = n → Cl g h 28 (20, arrL n (srtF fl w0 p0 k).2) → Cl g h 29 (20, arrL n (srtF fl w0 p0 k).1) → Stq g h0 (fun r => r ≠ 28 ∧ r ≠ 29) g h →
    V G fe_inOrder post h 0 0 48 [some (.ref x), some (.ref ra), some (.int (nI b)), some (.int fl), some (.ref (g.2 28)), some (.ref (g.2 29)), some (.int (nI k)), l7] [] := by
  intro c
  induction c with
  | zero =>
    intro k h l7 hk c28 c29 S
    obtain rfl : k = n := by omega
    refine V_iload d_fe_inOrder_48 rfl ?_
    refine V_aload d_fe_inOrder_50 rfl ?_
    refine V_alen d_fe_inOrder_52 c28.1 (by decide) (by decide) ?_
    rw [arrL_len]
    refine V_icmp_ge d_fe_inOrder_53 (fun c53 => ?_) (fun c53 => ?_)
    · skip
      refine V_aload d_fe_inOrder_110 rfl ?_
      refine V_areturn d_fe_inOrder_112 rfl (by first | exact Or.inl ⟨_, rfl⟩ | exact Or.inr ⟨_, rfl⟩) (by first | exact Or.inl rfl | exact Or.inr ⟨_, rfl⟩) ?_
      exact K h c28 S
    · skip
      exact absurd (ltN c53 (by omega)) (by omega)
  | succ c ih =>
    intro k h l7 hk c28 c29 S
    refine V_iload d_fe_inOrder_48 rfl ?_
    refine V_aload d_fe_inOrder_50 rfl ?_
    refine V_alen d_fe_inOrder_52 c28.1 (by decide) (by decide) ?_
    rw [arrL_len]
    refine V_icmp_ge d_fe_inOrder_53 (fun c53 => ?_) (fun c53 => ?_)
    · skip
      exact absurd (geN c53 (by omega)) (by omega)
    · skip
      refine V_iload d_fe_inOrder_56 rfl ?_
      refine V_istore d_fe_inOrder_58 (by decide) rfl rfl ?_
      dsimp only [List.set]
      refine lp_ordC G (W := (srtF fl w0 p0 k).1 k) (O := (srtF fl w0 p0 k).2 k) (wF := (srtF fl w0 p0 (k + 1)).1) (pF := (srtF fl w0 p0 (k + 1)).2) hn (by omega) _ (fun h1 l7' d1 d2 S1 => ?_) k h _ _ (Nat.le_refl _) rfl rfl rfl c28 c29 S
      refine V_iinc d_fe_inOrder_104 rfl rfl (by decide) rfl rfl ?_
      dsimp only [List.set]
      refine V_goto d_fe_inOrder_107 ?_
      rw [show Int32.ofInt 1 = 1 from rfl, nI_1]
      exact ih (k + 1) _ _ (by omega) d1 d2 S1
theorem lp_ordA (G : Gk) {g : Gm} {h0 : Hp} {s : Mem} {ra n b : Nat} {fl : Int32} {P : Nat → Int32} (hm : Sm s) (ivs : IvS s) (ivo : IvO s) (ivf : IvF s) (ivv : IvV s) (ivt : IvT s) (hb : b < 8) (hn : n ≤ 6) (ir : Im g h0 ra (20, arrL n P)) (hP : ∀ k, k < n → ∃ t, t < nO s ∧ P k = nI t) (c28 : Cl g h0 28 (20, arrL n P)) (post : Option Value → Hp → Prop)
    (K : ∀ (h : Hp) (w : Nat → Int32) (l6 : Option Value), RB g h s → Cl g h 29 (20, arrL n w) → (∀ k, k < n → w k = wgt s (P k).toNatClampNeg b) → Stq g h0 (fun r => nSc r ∧ r ≠ 29) g h → V G fe_inOrder post h 0 0 45 [some (.ref (g.2 2)), some (.ref ra), some (.int (nI b)), some (.int fl), some (.ref (g.2 28)), some (.ref (g.2 29)), l6, none] []) :
    ∀ (c k : Nat) (h : Hp) (w : Nat → Int32), k + c = n → RB g h s → Cl g h 29 (20, arrL n w) → (∀ i, i < k → w i = wgt s (P i).toNatClampNeg b) → Stq g h0 (fun r => nSc r ∧ r ≠ 29) g h →
    V G fe_inOrder post h 0 0 18 [some (.ref (g.2 2)), some (.ref ra), some (.int (nI b)), some (.int fl), some (.ref (g.2 28)), some (.ref (g.2 29)), some (.int (nI k)), none] [] := by
  have n60 := ivo.2.1
  intro c
  induction c with
  | zero =>
    intro k h w hk R c29 hw S
    obtain rfl : k = n := by omega
    have ir1 := ir.st S ⟨Or.inl (by omega), by omega⟩
    refine V_iload d_fe_inOrder_18 rfl ?_
    refine V_aload_n d_fe_inOrder_20 rfl rfl ?_
    refine V_alen d_fe_inOrder_21 ir1.1 (by decide) (by decide) ?_
    rw [arrL_len]
    refine V_icmp_ge d_fe_inOrder_22 (fun c22 => ?_) (fun c22 => ?_)
    · skip
      exact K h w _ R c29 hw S
    · skip
      exact absurd (ltN c22 (by omega)) (by omega)
  | succ c ih =>
    intro k h w hk R c29 hw S
    have X := R.1
    have ir1 := ir.st S ⟨Or.inl (by omega), by omega⟩
    obtain ⟨t, ht, et⟩ := hP k (by omega)
    refine V_iload d_fe_inOrder_18 rfl ?_
    refine V_aload_n d_fe_inOrder_20 rfl rfl ?_
    refine V_alen d_fe_inOrder_21 ir1.1 (by decide) (by decide) ?_
    rw [arrL_len]
    refine V_icmp_ge d_fe_inOrder_22 (fun c22 => ?_) (fun c22 => ?_)
    · skip
      exact absurd (geN c22 (by omega)) (by omega)
    · skip
      refine V_aload d_fe_inOrder_25 rfl ?_
      refine V_iload d_fe_inOrder_27 rfl ?_
      refine V_aload_n d_fe_inOrder_29 rfl rfl ?_
      refine V_aload_n d_fe_inOrder_30 rfl rfl ?_
      refine V_iload d_fe_inOrder_31 rfl ?_
      refine V_iald k d_fe_inOrder_33 ir1.1 rfl (by omega) (arrL_get _ (by omega)) ?_
      rw [et]
      refine V_iload_n d_fe_inOrder_34 rfl rfl ?_
      refine V_callV (N := fe_sortKey) d_fe_inOrder_35 ml_fe_322 mdf_fe_sortKey wi_fe_sortKey wz_fe_sortKey (sp_fe_sortKey G R hm ivs ivo ivf ivv ivt ht hb) (by first | assumption | exact X.1 | exact hu_self _ _ _ | (simp (disch := first | assumption | (apply Ne.symm; assumption)) only [hu_self, hu_ne]; assumption)) ⟨_, rfl, rfl⟩ rfl rfl (by decide) (by decide) (Nat.le_of_ble_eq_true rfl) rfl rfl (kI fun r35 h35 ⟨e35, R1, S1⟩ => ?_)
      have c29' := c29.st S1 (Or.inr (Or.inr (by omega)))
      refine V_iast k d_fe_inOrder_38 c29'.1 rfl (by omega) (by rw [arrL_len]; omega) ?_
      rw [arrL_set _ _ (by omega)]
      refine V_iinc (v := _) d_fe_inOrder_39 rfl rfl (by decide) rfl rfl ?_
      dsimp only [List.set]
      refine V_goto d_fe_inOrder_42 ?_
      rw [show Int32.ofInt 1 = 1 from rfl, nI_1]
      have S2 := Stq.put (h := h35) c29'.2 (20, arrL n (upd w k r35))
      refine ih (k + 1) _ (upd w k r35) (by omega) (R1.st hm S2 (fun r hr => by omega)) (Cl.put c29'.2 _) (fun i hi => ?_) ((S.tr (S1.mo (fun r hr => hr.1))).tr (S2.mo (fun r hr => hr.2)))
      by_cases z : i = k
      · (subst z; rw [pk_us, e35, et, cl t (by omega)])
      · (rw [pk_un z]; exact hw i (by omega))
theorem Cl.im {g : Gm} {h : Hp} {r : Nat} {c : Nat × List Value} (C : Cl g h r c) : Stq g h (fun x => x ≠ r) (ui g (g.2 r)) h ∧ Im (ui g (g.2 r)) h (g.2 r) c :=
  ⟨⟨fun a _ hd => ⟨rfl, if_neg (fun z => hd (by rw [z]; exact C.2))⟩, fun _ _ => rfl⟩, C.1, if_pos rfl⟩
theorem ord0 (G : Gk) {g : Gm} {h : Hp} {x ra b : Nat} {fl : Int32} {P : Nat → Int32} {post : Option Value → Hp → Prop} (c28 : Cl g h 28 (20, arrL 0 P)) (K : post (some (.ref (g.2 28))) h) : V G fe_inOrder post h 0 0 48 [some (.ref x), some (.ref ra), some (.int (nI b)), some (.int fl), some (.ref (g.2 28)), some (.ref (g.2 29)), some (.int 1), none] [] := by
  refine V_iload d_fe_inOrder_48 rfl ?_
  refine V_aload d_fe_inOrder_50 rfl ?_
  refine V_alen d_fe_inOrder_52 c28.1 (by decide) (by decide) ?_
  rw [arrL_len]
  refine V_icmp_ge d_fe_inOrder_53 (fun c53 => ?_) (fun c53 => ?_)
  · skip
    refine V_aload d_fe_inOrder_110 rfl ?_
    refine V_areturn d_fe_inOrder_112 rfl (by first | exact Or.inl ⟨_, rfl⟩ | exact Or.inr ⟨_, rfl⟩) (by first | exact Or.inl rfl | exact Or.inr ⟨_, rfl⟩) ?_
    exact K
  · skip
    exact absurd (by decide) c53
/-- all but scratch and what sort uses -/
def nSo (r : Nat) : Prop := nSc r ∧ r ≠ 28 ∧ r ≠ 29
theorem sp_fe_inOrder (G : Gk) {g : Gm} {h : Hp} {s : Mem} (R : RB g h s) (hm : Sm s) (ivs : IvS s) (ivo : IvO s) (ivf : IvF s) (ivv : IvV s) (ivt : IvT s) {ra n b : Nat} {P : Nat → Int32} (ir : Im g h ra (20, arrL n P)) (hn : n ≤ 6) (hP : ∀ k, k < n → ∃ t, t < nO s ∧ P k = nI t) (hb : b < 8) (fl : Int32) :
    Ct G fe_inOrder [.ref (g.2 2), .ref ra, .int (nI b), .int fl] h (pR fun r h' => ∃ g' w, RB g' h' s ∧ (∀ k, k < n → w k = wgt s (P k).toNatClampNeg b) ∧ Im g' h' r (20, arrL n (srtF fl w P n).2) ∧ Stq g h nSo g' h' ∧ g'.2 2 = g.2 2) := by
  refine Ct.ofL (M := fe_inOrder) (lv := [some (.ref (g.2 2)), some (.ref ra), some (.int (nI b)), some (.int fl), none, none, none, none]) mdf_fe_inOrder rfl (Nat.le_of_ble_eq_true rfl) rfl ?_
  refine V_aload_n d_fe_inOrder_0 rfl rfl ?_
  refine V.need (cr := (0 + 1) + 1) (sr := (0 + n) + n) ?_ (by decide) (by show 0 + n + n ≤ 12; omega)
  refine V_clone d_fe_inOrder_1 ml_fe_317 ir.1 arrL_ints (n := n) (by rw [arrL_len]) (by decide) (Nat.le_of_ble_eq_true rfl) (fun q1 hq1 => ?_)
  refine V_castI d_fe_inOrder_4 (hu_self _ _ _) kl_fe_318 ?_
  refine V_astore d_fe_inOrder_7 (by decide) rfl rfl ?_
  dsimp only [List.set]
  refine V_aload_n d_fe_inOrder_9 rfl rfl ?_
  refine V_alen d_fe_inOrder_10 (by rw [hu_ne _ _ (fne ir.1 hq1)]; exact ir.1) (by decide) (by decide) ?_
  rw [arrL_len]
  refine V_newI (M := fe_inOrder) n d_fe_inOrder_11 rfl (by omega) (fun q11 hq11 => ?_)
  have nqq : q1 ≠ q11 := fun z => by rw [← z, hu_self] at hq11; cases hq11
  refine V_astore d_fe_inOrder_13 (by decide) rfl rfl ?_
  dsimp only [List.set]
  refine V_iconst (v := 0) d_fe_inOrder_15 (by decide) ?_
  refine V_istore d_fe_inOrder_16 (by decide) rfl rfl ?_
  dsimp only [List.set]
  have S1 := Stq.fresh (g := g) hq1 28 (20, arrL n P)
  have S2 := Stq.fresh (g := ug g q1 28) hq11 29 (20, List.replicate n (.int 0))
  have C28 := (Cl.fresh g h q1 28 (20, arrL n P)).st S2 (by omega)
  have C29 := Cl.fresh (ug g q1 28) (hu h q1 (20, arrL n P)) q11 29 (20, List.replicate n (.int 0))
  have Sa : Stq g h nSo (ug (ug g q1 28) q11 29) (hu (hu h q1 (20, arrL n P)) q11 (20, List.replicate n (.int 0))) := (S1.mo (fun r hr => hr.2.1)).tr (S2.mo (fun r hr => hr.2.2))
  have R2 := (R.st hm S1 (fun r hr => by omega)).st hm S2 (fun r hr => by omega)
  have gx : (ug (ug g q1 28) q11 29).2 2 = g.2 2 := by rw [ug_2n _ _ (by omega), ug_2n _ _ (by omega)]
  have g28 : (ug (ug g q1 28) q11 29).2 28 = q1 := by rw [ug_2n _ _ (by omega), ug_2]
  have g29 : (ug (ug g q1 28) q11 29).2 29 = q11 := ug_2 _ _ _
  rw [arrL_rep] at C29 C28 R2 Sa ⊢
  have Lp := lp_ordA G (g := ug (ug g q1 28) q11 29) (fl := fl) hm ivs ivo ivf ivv ivt hb hn (ir.st Sa ⟨Or.inl (by omega), by omega, by omega⟩) hP C28 (pR fun r h' => ∃ g' w, RB g' h' s ∧ (∀ k, k < n → w k = wgt s (P k).toNatClampNeg b) ∧ Im g' h' r (20, arrL n (srtF fl w P n).2) ∧ Stq g h nSo g' h' ∧ g'.2 2 = g.2 2) (fun h1 w l6 R1 d29 hw Sb => ?_) n 0 _ (fun _ => 0) (by omega) R2 C29 (fun i hi => by omega) (Stq.rf _ _ _)
  · (rw [gx, g28, g29] at Lp; exact Lp)
  refine V_iconst (v := 1) d_fe_inOrder_45 (by decide) ?_
  refine V_istore d_fe_inOrder_46 (by decide) rfl rfl ?_
  dsimp only [List.set]
  have d28 := C28.st Sb ⟨Or.inr (Or.inr (by omega)), by omega⟩
  have Kf : ∀ (h2 : Hp), Cl (ug (ug g q1 28) q11 29) h2 28 (20, arrL n (srtF fl w P n).2) → Stq (ug (ug g q1 28) q11 29) h1 (fun r => r ≠ 28 ∧ r ≠ 29) (ug (ug g q1 28) q11 29) h2 → (pR fun r h' => ∃ g' w, RB g' h' s ∧ (∀ k, k < n → w k = wgt s (P k).toNatClampNeg b) ∧ Im g' h' r (20, arrL n (srtF fl w P n).2) ∧ Stq g h nSo g' h' ∧ g'.2 2 = g.2 2) (some (.ref ((ug (ug g q1 28) q11 29).2 28))) h2 := fun h2 e28 Sc => ⟨_, rfl, ui (ug (ug g q1 28) q11 29) ((ug (ug g q1 28) q11 29).2 28), w, (R1.st hm Sc (fun r hr => by omega)).st hm e28.im.1 (fun r hr => by omega), hw, e28.im.2, ((Sa.tr (Sb.mo (fun r hr => ⟨hr.1, hr.2.2⟩))).tr (Sc.mo (fun r hr => hr.2))).tr (e28.im.1.mo (fun r hr => hr.2.1)), gx⟩
  rcases Nat.eq_zero_or_pos n with z | z
  · (subst z; exact ord0 G d28 (Kf h1 d28 (Stq.rf _ _ _)))
  have e1 : srtF fl w P 1 = (w, P) := by show insF fl (w 0) (P 0) 0 w P = _; rw [insF, upd_self' rfl, upd_self' rfl]
  exact lp_ordB G (w0 := w) (p0 := P) hn _ Kf (n - 1) 1 h1 none (by omega) (by rw [e1]; exact d28) (by rw [e1]; exact d29) (Stq.rf _ _ _)
theorem sp_fe_isLocked (G : Gk) {g : Gm} {h : Hp} {s : Mem} (R : RB g h s) (ivs : IvS s) (ivo : IvO s) (ivf : IvF s) (ivv : IvV s) {o f c : Nat} (ho : o < nO s) (hf : f < nf s (sh s o)) (hk : s.2 3 (8 * sh s o + f) ≠ 3) (im : Im g h c (2, fdS s (sh s o) f)) : Ct G fe_isLocked [.ref (g.2 2), .int (nI o), .int (nI f), .ref c] h (pI fun r h' => h = h' ∧ r = b01 (s.2 7 (8 * sh s o + f) &&& 2 ≠ 0 ∧ s.2 10 (8 * o + f) ≠ MISS)) := by
  have X := R.1
  obtain ⟨T, t1, t2, t3⟩ := R.2.2.1
  obtain ⟨tt, u1, u2, W, w1, w2, w3⟩ := t3 o ho
  obtain ⟨ar, y1, y2⟩ := w3 f hf
  refine Ct.ofL (M := fe_isLocked) (lv := [some (.ref (g.2 2)), some (.int (nI o)), some (.int (nI f)), some (.ref c)]) mdf_fe_isLocked rfl (Nat.le_of_ble_eq_true rfl) rfl ?_
  refine V_aload_n d_fe_isLocked_0 rfl rfl ?_
  refine V_iconst (v := 2) d_fe_isLocked_1 (by decide) ?_
  refine V_callV (N := fd_has) d_fe_isLocked_2 ml_fe_240 mdf_fd_has wi_fd_has wz_fd_has (sp_fd_has G im.1 2) im.1 ⟨_, rfl, rfl⟩ rfl rfl (by decide) (by decide) (Nat.le_of_ble_eq_true rfl) rfl rfl (kI fun r2 h2 ⟨e2, f2⟩ => ?_)
  subst e2 f2
  refine V_if_eq d_fe_isLocked_5 (fun c5 => ?_) (fun c5 => ?_)
  · skip
    refine V_iconst (v := 0) d_fe_isLocked_23 (by decide) ?_
    refine V_zreturn d_fe_isLocked_24 rfl (by first | exact Or.inl rfl | exact Or.inr rfl) ?_
    exact ⟨_, rfl, rfl, (b01_f (fun q => b01_e c5 q.1)).symm⟩
  · skip
    refine V_aload_n d_fe_isLocked_8 rfl rfl ?_
    refine V_iload_n d_fe_isLocked_9 rfl rfl ?_
    refine V_iload_n d_fe_isLocked_10 rfl rfl ?_
    refine V_callV (N := fe_valueOf) d_fe_isLocked_11 ml_fe_156 mdf_fe_valueOf wi_fe_valueOf wz_fe_valueOf (sp_fe_valueP G X R.2.1 ivs ivo ho hf hk t2.1 u1 u2.1 w2.1 y1 y2.1 row_pos) (by first | assumption | exact X.1 | exact hu_self _ _ _ | (simp (disch := first | assumption | (apply Ne.symm; assumption)) only [hu_self, hu_ne]; assumption)) ⟨_, rfl, rfl⟩ rfl rfl (by decide) (by decide) (Nat.le_of_ble_eq_true rfl) rfl rfl (kI fun r11 h11 ⟨e11, f11⟩ => ?_)
    subst e11 f11
    rw [plain_eq ivo ivf ivv ho hf hk]
    refine V_ldc d_fe_isLocked_14 kc_fe_87 ?_
    refine V_icmp_eq d_fe_isLocked_16 (fun c16 => ?_) (fun c16 => ?_)
    · skip
      refine V_iconst (v := 0) d_fe_isLocked_23 (by decide) ?_
      refine V_zreturn d_fe_isLocked_24 rfl (by first | exact Or.inl rfl | exact Or.inr rfl) ?_
      exact ⟨_, rfl, rfl, (b01_f (fun q => q.2 c16)).symm⟩
    · skip
      refine V_iconst (v := 1) d_fe_isLocked_19 (by decide) ?_
      refine V_goto d_fe_isLocked_20 ?_
      refine V_zreturn d_fe_isLocked_24 rfl (by first | exact Or.inl rfl | exact Or.inr rfl) ?_
      exact ⟨_, rfl, rfl, (b01_t ⟨b01_ne c5, c16⟩).symm⟩
/-- whether it would loop, as the class finds it -/
def loopC (s : Mem) (o x u : Nat) : Prop := s.2 7 x &&& 4 = 0 ∧ (findB s u).2.2 o ≠ -1
theorem sp_fe_wouldLoop (G : Gk) {g : Gm} {h : Hp} {s : Mem} (R : RB g h s) (hm : Sm s) (ivs : IvS s) (ivo : IvO s) (ivv : IvV s) {o f c u : Nat} (ho : o < nO s) (hu1 : u < nO s) (hk : s.2 3 (8 * sh s o + f) = 1 ∨ s.2 3 (8 * sh s o + f) = 2) (im : Im g h c (2, fdS s (sh s o) f)) : Ct G fe_wouldLoop [.ref (g.2 2), .int (nI o), .ref c, .int (nI u)] h (pI fun r h' => r = b01 (loopC s o (8 * sh s o + f) u) ∧ RB g h' s ∧ Stq g h nSc g h') := by
  have X := R.1
  have n60 := ivo.2.1
  refine Ct.ofL (M := fe_wouldLoop) (lv := [some (.ref (g.2 2)), some (.int (nI o)), some (.ref c), some (.int (nI u))]) mdf_fe_wouldLoop rfl (Nat.le_of_ble_eq_true rfl) rfl ?_
  refine V_aload_n d_fe_wouldLoop_0 rfl rfl ?_
  refine V_callV (N := fd_holdsOn) d_fe_wouldLoop_1 ml_fe_213 mdf_fd_holdsOn wi_fd_holdsOn wz_fd_holdsOn (sp_fd_holdsOn G im.1) im.1 ⟨_, rfl, rfl⟩ rfl rfl (by decide) (by decide) (Nat.le_of_ble_eq_true rfl) rfl rfl (kI fun r1 h1 ⟨e1, f1⟩ => ?_)
  subst e1 f1
  refine V_if_ne d_fe_wouldLoop_4 (fun c4 => ?_) (fun c4 => ?_)
  · skip
    refine V_aload_n d_fe_wouldLoop_9 rfl rfl ?_
    refine V_iload_n d_fe_wouldLoop_10 rfl rfl ?_
    refine V_callV (N := fe_reach) d_fe_wouldLoop_11 ml_fe_173 mdf_fe_reach wi_fe_reach wz_fe_reach (sp_fe_reach G R hm ivs ivo ivv hu1) (by first | assumption | exact X.1 | exact hu_self _ _ _ | (simp (disch := first | assumption | (apply Ne.symm; assumption)) only [hu_self, hu_ne]; assumption)) ⟨_, rfl, rfl⟩ rfl rfl (by decide) (by decide) (Nat.le_of_ble_eq_true rfl) rfl rfl (kN fun h11 ⟨b, Z, hE, hb, R1, S1⟩ => ?_)
    have X := R1.1
    refine V_aload_n d_fe_wouldLoop_14 rfl rfl ?_
    refine V_getf d_fe_wouldLoop_15 fl_fe_43 (by first | assumption | exact X.1 | exact hu_self _ _ _ | (simp (disch := first | assumption | (apply Ne.symm; assumption)) only [hu_self, hu_ne]; assumption)) rfl ?_
    refine V_getf d_fe_wouldLoop_18 fl_fe_176 Z.1.1 rfl ?_
    refine V_iload_n d_fe_wouldLoop_21 rfl rfl ?_
    refine V_iald o d_fe_wouldLoop_22 Z.2.2.1 rfl (by omega) (arrL_get _ (by omega)) ?_
    rw [hE.2.2 o ho]
    refine V_iconst (v := -1) d_fe_wouldLoop_23 (by decide) ?_
    refine V_icmp_eq d_fe_wouldLoop_24 (fun c24 => ?_) (fun c24 => ?_)
    · skip
      refine V_iconst (v := 0) d_fe_wouldLoop_31 (by decide) ?_
      refine V_zreturn d_fe_wouldLoop_32 rfl (by first | exact Or.inl rfl | exact Or.inr rfl) ?_
      exact ⟨_, rfl, (b01_f (fun q => q.2 c24)).symm, R1, S1⟩
    · skip
      refine V_iconst (v := 1) d_fe_wouldLoop_27 (by decide) ?_
      refine V_goto d_fe_wouldLoop_28 ?_
      refine V_zreturn d_fe_wouldLoop_32 rfl (by first | exact Or.inl rfl | exact Or.inr rfl) ?_
      exact ⟨_, rfl, (b01_t ⟨(b01_ne c4).2, c24⟩).symm, R1, S1⟩
  · skip
    refine V_iconst (v := 0) d_fe_wouldLoop_7 (by decide) ?_
    refine V_zreturn d_fe_wouldLoop_8 rfl (by first | exact Or.inl rfl | exact Or.inr rfl) ?_
    exact ⟨_, rfl, (b01_f (fun q => b01_e c4 ⟨hk, q.1⟩)).symm, R, Stq.rf _ _ _⟩
