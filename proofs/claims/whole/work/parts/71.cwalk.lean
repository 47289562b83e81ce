/-! walks -/
theorem lp_gil (G : Gk) {h0 : Hp} {r a p q m e : Nat} {P : Nat → Int32} {k n : Int32} {l4 : Option Value} (hr : h0 r = some (20, arrL m P)) (nra : r ≠ a) (nrp : r ≠ p) (nrq : r ≠ q) (m6 : m ≤ 6) (e7 : e < 100) : ∀ (c i : Nat) (h : Hp) (L : List Spt), i + c = e → SoR h a p q L → Fr3 h0 a p q h → (L ++ lsP P m i c).length ≤ 36 →
    V G fe_goIntoList (pN fun h' => SoR h' a p q (L ++ lsP P m i c) ∧ Fr3 h0 a p q h') h 0 0 48 [some (.ref r), some (.int k), some (.int n), some (.ref a), l4, some (.int (nI e - 1)), some (.int (nI i))] [] := by
  intro c
  induction c with
  | zero =>
    intro i h L hi hS hF hl
    obtain rfl : i = e := by omega
    have hr1 : h r = some (20, arrL m P) := by rw [hF r nra nrp nrq]; exact hr
    have eL : L ++ lsP P m i 0 = L := List.append_nil L
    rw [eL]
    refine V_iload d_fe_goIntoList_48 rfl ?_
    refine V_iload d_fe_goIntoList_50 rfl ?_
    refine V_icmp_gt d_fe_goIntoList_52 (fun c52 => ?_) (fun c52 => ?_)
    · skip
      refine V_return d_fe_goIntoList_77 rfl ?_
      exact ⟨rfl, hS, hF⟩
    · skip
      exact absurd ((gt_last (by omega) (by omega)).mpr (Nat.le_refl _)) c52
  | succ c ih =>
    intro i h L hi hS hF hl
    have hr1 : h r = some (20, arrL m P) := by rw [hF r nra nrp nrq]; exact hr
    refine V_iload d_fe_goIntoList_48 rfl ?_
    refine V_iload d_fe_goIntoList_50 rfl ?_
    refine V_icmp_gt d_fe_goIntoList_52 (fun c52 => ?_) (fun c52 => ?_)
    · skip
      exact absurd ((gt_last (by omega) (by omega)).mp c52) (by omega)
    · skip
      refine V_iload d_fe_goIntoList_55 rfl ?_
      refine V_aload_n d_fe_goIntoList_57 rfl rfl ?_
      refine V_alen d_fe_goIntoList_58 hr1 (by decide) (by decide) ?_
      rw [arrL_len]
      refine V_icmp_ge d_fe_goIntoList_59 (fun c59 => ?_) (fun c59 => ?_)
      · skip
        refine V_return d_fe_goIntoList_77 rfl ?_
        have hge := geN c59 (by omega)
        have e0 : ∀ c i, m ≤ i → lsP P m i c = [] := (fun c => by induction c with | zero => intro i _; rfl | succ c ih => intro i hi; rw [lsP, if_neg (by omega), ih (i + 1) (by omega)]; rfl)
        rw [e0 (c + 1) i hge, List.append_nil]
        exact ⟨rfl, hS, hF⟩
      · skip
        have hlt := ltN c59 (by omega)
        have eL : lsP P m i (c + 1) = (P i, -1) :: lsP P m (i + 1) c := by rw [lsP, if_pos hlt]; rfl
        rw [eL] at hl ⊢
        rw [List.append_cons] at hl ⊢
        refine V_aload_n d_fe_goIntoList_62 rfl rfl ?_
        refine V_aload_n d_fe_goIntoList_63 rfl rfl ?_
        refine V_iload d_fe_goIntoList_64 rfl ?_
        refine V_iald i d_fe_goIntoList_66 hr1 rfl (by omega) (arrL_get _ hlt) ?_
        refine V_iconst (v := -1) d_fe_goIntoList_67 (by decide) ?_
        refine V_callV (N := so_add) d_fe_goIntoList_68 ml_fe_403 mdf_so_add wi_so_add wz_so_add (sp_so_add G hS (by simp only [List.length_append, List.length_cons, List.length_nil] at hl; omega) (P i) (-1)) (by obtain ⟨_, _, z, _⟩ := hS; exact z) ⟨_, rfl, rfl⟩ rfl rfl (by decide) (by decide) (Nat.le_of_ble_eq_true rfl) rfl rfl (kN fun h68 ⟨p68, f68⟩ => ?_)
        refine V_iinc (v := _) d_fe_goIntoList_71 rfl rfl (by decide) rfl rfl ?_
        dsimp only [List.set]
        refine V_goto d_fe_goIntoList_74 ?_
        rw [show Int32.ofInt 1 = 1 from rfl, nI_1]
        exact ih (i + 1) h68 _ (by omega) p68 (hF.tr f68) hl
theorem sp_fe_goIntoList (G : Gk) {h : Hp} {r a p q m : Nat} {P : Nat → Int32} {k n : Int32} {L : List Spt} (hr : h r = some (20, arrL m P)) (nrp : r ≠ p) (nrq : r ≠ q) (m6 : m ≤ 6) (hS : SoR h a p q L) (hk : (k = 1 ∧ 0 ≤ n ∧ n ≤ 5) ∨ k = 2 ∨ k = 3) (hl : (L ++ lsP P m (lsN k n m).1 (lsN k n m).2).length ≤ 36) : Ct G fe_goIntoList [.ref r, .int k, .int n, .ref a] h (pN fun h' => SoR h' a p q (L ++ lsP P m (lsN k n m).1 (lsN k n m).2) ∧ Fr3 h a p q h') := by
  have nra : r ≠ a := by obtain ⟨_, _, z, _⟩ := hS; exact kne hr z (by decide)
  rcases hk with ⟨rfl, n0, n5⟩ | rfl | rfl
  · obtain ⟨j, hj, rfl⟩ := ixle (n := 5) (by omega) ⟨n0, n5⟩
    have eN : lsN 1 (nI j) m = (j, 1) := by unfold lsN; rw [if_pos rfl, cl j (by omega)]
    rw [eN] at hl ⊢
    refine Ct.ofL (M := fe_goIntoList) (lv := [some (.ref r), some (.int 1), some (.int (nI j)), some (.ref a), none, none, none]) mdf_fe_goIntoList rfl (Nat.le_of_ble_eq_true rfl) rfl ?_
    refine V_iload_n d_fe_goIntoList_0 rfl rfl ?_
    refine V_iconst (v := 1) d_fe_goIntoList_1 (by decide) ?_
    refine V_icmp_ne d_fe_goIntoList_2 (fun c2 => ?_) (fun c2 => ?_)
    · skip
      exact absurd rfl c2
    · skip
      refine V_iload_n d_fe_goIntoList_5 rfl rfl ?_
      refine V_goto d_fe_goIntoList_6 ?_
      refine V_istore d_fe_goIntoList_22 (by decide) rfl rfl ?_
      dsimp only [List.set]
      refine V_iload_n d_fe_goIntoList_24 rfl rfl ?_
      refine V_iconst (v := 3) d_fe_goIntoList_25 (by decide) ?_
      refine V_icmp_ne d_fe_goIntoList_26 (fun c26 => ?_) (fun c26 => ?_)
      · skip
        refine V_iload d_fe_goIntoList_36 rfl ?_
        refine V_istore d_fe_goIntoList_38 (by decide) rfl rfl ?_
        dsimp only [List.set]
        refine V_iload d_fe_goIntoList_40 rfl ?_
        refine V_iconst (v := 0) d_fe_goIntoList_42 (by decide) ?_
        refine V_mmax d_fe_goIntoList_43 ml_fe_201 (by decide) (Nat.le_of_ble_eq_true rfl) ?_
        refine V_istore d_fe_goIntoList_46 (by decide) rfl rfl ?_
        dsimp only [List.set]
        rw [show (if nI j < 0 then (0 : Int32) else nI j) = nI j from if_neg (nI_pos (by omega))]
        have Q := lp_gil G (k := 1) (n := nI j) (l4 := some (.int (nI j))) (e := j + 1) hr nra nrp nrq m6 (by omega) 1 j h L (by omega) hS (Fr3.rf _ _ _ _) hl
        rw [show nI (j + 1) - 1 = nI j by rw [ixm (by omega)]; rfl] at Q
        exact Q
      · skip
        exact absurd c26 (by decide)
  · rcases Nat.eq_zero_or_pos m with rfl | hm
    · have eN : lsN 2 n 0 = (0, 0) := rfl
      rw [eN] at hl ⊢
      refine Ct.ofL (M := fe_goIntoList) (lv := [some (.ref r), some (.int 2), some (.int n), some (.ref a), none, none, none]) mdf_fe_goIntoList rfl (Nat.le_of_ble_eq_true rfl) rfl ?_
      refine V_iload_n d_fe_goIntoList_0 rfl rfl ?_
      refine V_iconst (v := 1) d_fe_goIntoList_1 (by decide) ?_
      refine V_icmp_ne d_fe_goIntoList_2 (fun c2 => ?_) (fun c2 => ?_)
      · skip
        refine V_iload_n d_fe_goIntoList_9 rfl rfl ?_
        refine V_iconst (v := 2) d_fe_goIntoList_10 (by decide) ?_
        refine V_icmp_ne d_fe_goIntoList_11 (fun c11 => ?_) (fun c11 => ?_)
        · skip
          exact absurd rfl c11
        · skip
          refine V_aload_n d_fe_goIntoList_14 rfl rfl ?_
          refine V_alen d_fe_goIntoList_15 (by first | assumption | exact X.1 | exact hu_self _ _ _ | (simp (disch := first | assumption | (apply Ne.symm; assumption)) only [hu_self, hu_ne]; assumption)) (by decide) (by decide) ?_
          rw [arrL_len]
          refine V_iconst (v := 1) d_fe_goIntoList_16 (by decide) ?_
          refine V_isub d_fe_goIntoList_17 ?_
          refine V_goto d_fe_goIntoList_18 ?_
          refine V_istore d_fe_goIntoList_22 (by decide) rfl rfl ?_
          dsimp only [List.set]
          refine V_iload_n d_fe_goIntoList_24 rfl rfl ?_
          refine V_iconst (v := 3) d_fe_goIntoList_25 (by decide) ?_
          refine V_icmp_ne d_fe_goIntoList_26 (fun c26 => ?_) (fun c26 => ?_)
          · skip
            refine V_iload d_fe_goIntoList_36 rfl ?_
            refine V_istore d_fe_goIntoList_38 (by decide) rfl rfl ?_
            dsimp only [List.set]
            refine V_iload d_fe_goIntoList_40 rfl ?_
            refine V_iconst (v := 0) d_fe_goIntoList_42 (by decide) ?_
            refine V_mmax d_fe_goIntoList_43 ml_fe_201 (by decide) (Nat.le_of_ble_eq_true rfl) ?_
            refine V_istore d_fe_goIntoList_46 (by decide) rfl rfl ?_
            dsimp only [List.set]
            exact lp_gil G (k := 2) (n := n) (e := 0) hr nra nrp nrq m6 (by omega) 0 0 h L (by omega) hS (Fr3.rf _ _ _ _) hl
          · skip
            exact absurd c26 (by decide)
      · skip
        exact absurd c2 (by decide)
    · have eN : lsN 2 n m = (m - 1, 1) := by unfold lsN; rw [if_neg (by decide), if_pos rfl, if_neg (by omega)]
      rw [eN] at hl ⊢
      refine Ct.ofL (M := fe_goIntoList) (lv := [some (.ref r), some (.int 2), some (.int n), some (.ref a), none, none, none]) mdf_fe_goIntoList rfl (Nat.le_of_ble_eq_true rfl) rfl ?_
      refine V_iload_n d_fe_goIntoList_0 rfl rfl ?_
      refine V_iconst (v := 1) d_fe_goIntoList_1 (by decide) ?_
      refine V_icmp_ne d_fe_goIntoList_2 (fun c2 => ?_) (fun c2 => ?_)
      · skip
        refine V_iload_n d_fe_goIntoList_9 rfl rfl ?_
        refine V_iconst (v := 2) d_fe_goIntoList_10 (by decide) ?_
        refine V_icmp_ne d_fe_goIntoList_11 (fun c11 => ?_) (fun c11 => ?_)
        · skip
          exact absurd rfl c11
        · skip
          refine V_aload_n d_fe_goIntoList_14 rfl rfl ?_
          refine V_alen d_fe_goIntoList_15 (by first | assumption | exact X.1 | exact hu_self _ _ _ | (simp (disch := first | assumption | (apply Ne.symm; assumption)) only [hu_self, hu_ne]; assumption)) (by decide) (by decide) ?_
          rw [arrL_len]
          refine V_iconst (v := 1) d_fe_goIntoList_16 (by decide) ?_
          refine V_isub d_fe_goIntoList_17 ?_
          rw [ixm (by omega)]
          refine V_goto d_fe_goIntoList_18 ?_
          refine V_istore d_fe_goIntoList_22 (by decide) rfl rfl ?_
          dsimp only [List.set]
          refine V_iload_n d_fe_goIntoList_24 rfl rfl ?_
          refine V_iconst (v := 3) d_fe_goIntoList_25 (by decide) ?_
          refine V_icmp_ne d_fe_goIntoList_26 (fun c26 => ?_) (fun c26 => ?_)
          · skip
            refine V_iload d_fe_goIntoList_36 rfl ?_
            refine V_istore d_fe_goIntoList_38 (by decide) rfl rfl ?_
            dsimp only [List.set]
            refine V_iload d_fe_goIntoList_40 rfl ?_
            refine V_iconst (v := 0) d_fe_goIntoList_42 (by decide) ?_
            refine V_mmax d_fe_goIntoList_43 ml_fe_201 (by decide) (Nat.le_of_ble_eq_true rfl) ?_
            refine V_istore d_fe_goIntoList_46 (by decide) rfl rfl ?_
            dsimp only [List.set]
            rw [show (if nI (m - 1) < 0 then (0 : Int32) else nI (m - 1)) = nI (m - 1) from if_neg (nI_pos (by omega))]
            have Q := lp_gil G (k := 2) (n := n) (l4 := some (.int (nI (m - 1)))) (e := m) hr nra nrp nrq m6 (by omega) 1 (m - 1) h L (by omega) hS (Fr3.rf _ _ _ _) hl
            rw [ixm (by omega)] at Q
            exact Q
          · skip
            exact absurd c26 (by decide)
      · skip
        exact absurd c2 (by decide)
  · have eN : lsN 3 n m = (0, m) := by unfold lsN; rw [if_neg (by decide), if_neg (by decide)]
    rw [eN] at hl ⊢
    refine Ct.ofL (M := fe_goIntoList) (lv := [some (.ref r), some (.int 3), some (.int n), some (.ref a), none, none, none]) mdf_fe_goIntoList rfl (Nat.le_of_ble_eq_true rfl) rfl ?_
    refine V_iload_n d_fe_goIntoList_0 rfl rfl ?_
    refine V_iconst (v := 1) d_fe_goIntoList_1 (by decide) ?_
    refine V_icmp_ne d_fe_goIntoList_2 (fun c2 => ?_) (fun c2 => ?_)
    · skip
      refine V_iload_n d_fe_goIntoList_9 rfl rfl ?_
      refine V_iconst (v := 2) d_fe_goIntoList_10 (by decide) ?_
      refine V_icmp_ne d_fe_goIntoList_11 (fun c11 => ?_) (fun c11 => ?_)
      · skip
        refine V_iconst (v := 0) d_fe_goIntoList_21 (by decide) ?_
        refine V_istore d_fe_goIntoList_22 (by decide) rfl rfl ?_
        dsimp only [List.set]
        refine V_iload_n d_fe_goIntoList_24 rfl rfl ?_
        refine V_iconst (v := 3) d_fe_goIntoList_25 (by decide) ?_
        refine V_icmp_ne d_fe_goIntoList_26 (fun c26 => ?_) (fun c26 => ?_)
        · skip
          exact absurd rfl c26
        · skip
          refine V_aload_n d_fe_goIntoList_29 rfl rfl ?_
          refine V_alen d_fe_goIntoList_30 (by first | assumption | exact X.1 | exact hu_self _ _ _ | (simp (disch := first | assumption | (apply Ne.symm; assumption)) only [hu_self, hu_ne]; assumption)) (by decide) (by decide) ?_
          rw [arrL_len]
          refine V_iconst (v := 1) d_fe_goIntoList_31 (by decide) ?_
          refine V_isub d_fe_goIntoList_32 ?_
          refine V_goto d_fe_goIntoList_33 ?_
          refine V_istore d_fe_goIntoList_38 (by decide) rfl rfl ?_
          dsimp only [List.set]
          refine V_iload d_fe_goIntoList_40 rfl ?_
          refine V_iconst (v := 0) d_fe_goIntoList_42 (by decide) ?_
          refine V_mmax d_fe_goIntoList_43 ml_fe_201 (by decide) (Nat.le_of_ble_eq_true rfl) ?_
          refine V_istore d_fe_goIntoList_46 (by decide) rfl rfl ?_
          dsimp only [List.set]
          exact lp_gil G (k := 3) (n := n) (e := m) hr nra nrp nrq m6 (by omega) m 0 h L (by omega) hS (Fr3.rf _ _ _ _) hl
      · skip
        exact absurd c11 (by decide)
    · skip
      exact absurd c2 (by decide)
theorem RB.so {g : Gm} {h0 h : Hp} {s : Mem} {k : Nat} {L : List Spt} (R : RB g h0 s) (hm : Sm s) (hk : k < 2) (hS : SoR h (g.2 (16 + k)) (g.2 (18 + k)) (g.2 (20 + k)) L) (hF : Fr3 h0 (g.2 (16 + k)) (g.2 (18 + k)) (g.2 (20 + k)) h) : RB g h s ∧ Stq g h0 (fun r => r ≠ 16 + k ∧ r ≠ 18 + k ∧ r ≠ 20 + k) g h ∧ Cl g h (16 + k) (9, [.ref (g.2 (18 + k)), .ref (g.2 (20 + k)), .int (nI L.length)]) ∧ (∃ u, Cl g h (18 + k) (20, arrL 36 u)) ∧ ∃ v, Cl g h (20 + k) (20, arrL 36 v) := by
  obtain ⟨zv, ⟨b0, zr⟩, ⟨P, zp⟩, z0, z1⟩ := R.2.2.2.2.2
  have Z : ZS g h0 k := by rcases (show k = 0 ∨ k = 1 by omega) with rfl | rfl; exact z0; exact z1
  obtain ⟨n, u, v, q1, q2, q3⟩ := Z
  obtain ⟨f, f', s1, s2, s3, _⟩ := hS
  have S : Stq g h0 (fun r => r ≠ 16 + k ∧ r ≠ 18 + k ∧ r ≠ 20 + k) g h := Stq.of (fun a ha hd => hF a (fun z => hd.1 (by rw [z]; exact q1.2)) (fun z => hd.2.1 (by rw [z]; exact q2.2)) (fun z => hd.2.2 (by rw [z]; exact q3.2)))
  have Zn : ZS g h k := ⟨_, f, f', ⟨s1, q1.2⟩, ⟨s2, q2.2⟩, ⟨s3, q3.2⟩⟩
  refine ⟨R.sc hm (S.mo (fun r hr => by unfold nSc at hr; omega)) ⟨zv.st S (by omega), ⟨b0, zr.st S (by omega) (by omega) (by omega)⟩, ⟨P, zp.st S (by omega) (by omega) (by omega) (by omega)⟩, ?_, ?_⟩, S, ⟨s1, q1.2⟩, ⟨f, s2, q2.2⟩, ⟨f', s3, q3.2⟩⟩
  · rcases (show k = 0 ∨ k = 1 by omega) with rfl | rfl
    · exact Zn
    · exact z0.st S (by omega) (by omega) (by omega)
  · rcases (show k = 0 ∨ k = 1 by omega) with rfl | rfl
    · exact z1.st S (by omega) (by omega) (by omega)
    · exact Zn
theorem sp_fe_goToField (G : Gk) {g : Gm} {h : Hp} {s : Mem} (R : RB g h s) (ivs : IvS s) (ivo : IvO s) {a p q o : Nat} {L : List Spt} (ho : o < nO s) (n l : Int32) (hS : SoR h a p q L) (hl : (L ++ fldW s o n l).length ≤ 36) : Ct G fe_goToField [.ref (g.2 2), .int (nI o), .int n, .int l, .ref a] h (pN fun h' => SoR h' a p q (L ++ fldW s o n l) ∧ Fr3 h a p q h') := by
  have X := R.1
  have n60 := ivo.2.1
  have hSa : ∃ ws, h a = some (9, ws) := by obtain ⟨_, _, z, _⟩ := hS; exact ⟨_, z⟩
  obtain ⟨ws, hSa⟩ := hSa
  obtain ⟨T, t1, t2, t3⟩ := R.2.2.1
  have n8 := (ivs.2.2.1 _ (ivo.2.2 o ho).2).2
  refine Ct.ofL (M := fe_goToField) (lv := [some (.ref (g.2 2)), some (.int (nI o)), some (.int n), some (.int l), some (.ref a), none, none]) mdf_fe_goToField rfl (Nat.le_of_ble_eq_true rfl) rfl ?_
  refine V_aload_n d_fe_goToField_0 rfl rfl ?_
  refine V_iload_n d_fe_goToField_1 rfl rfl ?_
  refine V_iload_n d_fe_goToField_2 rfl rfl ?_
  refine V_callV (N := fe_fieldOf) d_fe_goToField_3 ml_fe_152 mdf_fe_fieldOf wi_fe_fieldOf wz_fe_fieldOf (sp_fe_fieldOf G R ivs ivo (nI o) n) (by first | assumption | exact X.1 | exact hu_self _ _ _ | (simp (disch := first | assumption | (apply Ne.symm; assumption)) only [hu_self, hu_ne]; assumption)) ⟨_, rfl, rfl⟩ rfl rfl (by decide) (by decide) (Nat.le_of_ble_eq_true rfl) rfl rfl (kQ fun r3 h3 ⟨e3, z3⟩ => ?_)
  subst e3
  rcases z3 with ⟨no, rfl⟩ | ⟨o', f, c, ho', eo, hf, rfl, im, rfl⟩
  · skip
    refine V_astoreN d_fe_goToField_6 (by decide) rfl rfl ?_
    dsimp only [List.set]
    refine V_aloadN d_fe_goToField_8 rfl ?_
    refine V_ifnonnullN d_fe_goToField_10 ?_
    refine V_return d_fe_goToField_13 rfl ?_
    have e : fldW s o n l = [] := if_neg no
    rw [e, List.append_nil]
    exact ⟨rfl, hS, Fr3.rf _ _ _ _⟩
  · skip
    refine V_astore d_fe_goToField_6 (by decide) rfl rfl ?_
    dsimp only [List.set]
    refine V_aload d_fe_goToField_8 rfl ?_
    refine V_ifnonnull d_fe_goToField_10 ?_
    obtain rfl := nI_inj8 (by omega) (by omega) eo
    have eW : fldW s o (nI f) l = (if s.2 3 (8 * sh s o + f) = 1 ∧ l = 0 then (if s.2 10 (8 * o + f) = MISS then [] else [(s.2 10 (8 * o + f), -1)]) else [(nI o, nI f)]) := by unfold fldW; rw [if_pos (hasF_i ho hf), cl f (by omega)]
    rw [eW] at hl ⊢
    refine V_aload d_fe_goToField_14 rfl ?_
    refine V_getf d_fe_goToField_16 fl_fe_109 im.1 rfl ?_
    refine V_iconst (v := 1) d_fe_goToField_19 (by decide) ?_
    refine V_icmp_ne d_fe_goToField_20 (fun c20 => ?_) (fun c20 => ?_)
    · skip
      rw [if_neg (fun z => c20 z.1)] at hl ⊢
      refine V_aload d_fe_goToField_27 rfl ?_
      refine V_iload_n d_fe_goToField_29 rfl rfl ?_
      refine V_iload_n d_fe_goToField_30 rfl rfl ?_
      refine V_callV (N := so_add) d_fe_goToField_31 ml_fe_403 mdf_so_add wi_so_add wz_so_add (sp_so_add G hS (by rw [List.length_append] at hl; exact hl) (nI o) (nI f)) hSa ⟨_, rfl, rfl⟩ rfl rfl (by decide) (by decide) (Nat.le_of_ble_eq_true rfl) rfl rfl (kN fun h31 p31 => ?_)
      refine V_return d_fe_goToField_34 rfl ?_
      exact ⟨rfl, p31⟩
    · skip
      refine V_iload_n d_fe_goToField_23 rfl rfl ?_
      refine V_if_eq d_fe_goToField_24 (fun c24 => ?_) (fun c24 => ?_)
      · skip
        rw [if_pos ⟨c20, c24⟩] at hl ⊢
        obtain ⟨tt, u1, u2, W, w1, w2, w3⟩ := t3 o ho
        obtain ⟨ar, y1, y2⟩ := w3 f hf
        have eN : rowN s o f = 1 := by unfold rowN rwN; rw [c20]; rfl
        have eF : rowF s o f 0 = s.2 10 (8 * o + f) := by unfold rowF rwF; rw [c20]; rfl
        rw [eN] at y2
        refine V_aload_n d_fe_goToField_35 rfl rfl ?_
        refine V_getf d_fe_goToField_36 fl_fe_17 (by first | assumption | exact X.1 | exact hu_self _ _ _ | (simp (disch := first | assumption | (apply Ne.symm; assumption)) only [hu_self, hu_ne]; assumption)) rfl ?_
        refine V_iload_n d_fe_goToField_39 rfl rfl ?_
        refine V_aald o d_fe_goToField_40 t2.1 (by decide) (by decide) rfl (by omega) u1 ?_
        refine V_getf d_fe_goToField_41 fl_fe_140 u2.1 rfl ?_
        refine V_iload_n d_fe_goToField_44 rfl rfl ?_
        refine V_aald f d_fe_goToField_45 w2.1 (by decide) (by decide) rfl (by omega) y1 ?_
        refine V_iconst (v := 0) d_fe_goToField_46 (by decide) ?_
        refine V_iald 0 d_fe_goToField_47 y2.1 rfl (by omega) (arrL_get _ (by omega)) ?_
        rw [eF]
        refine V_istore d_fe_goToField_48 (by decide) rfl rfl ?_
        dsimp only [List.set]
        refine V_iload d_fe_goToField_50 rfl ?_
        refine V_ldc d_fe_goToField_52 kc_fe_87 ?_
        refine V_icmp_eq d_fe_goToField_54 (fun c54 => ?_) (fun c54 => ?_)
        · skip
          refine V_return d_fe_goToField_65 rfl ?_
          rw [if_pos c54, List.append_nil]
          exact ⟨rfl, hS, Fr3.rf _ _ _ _⟩
        · skip
          rw [if_neg c54] at hl ⊢
          refine V_aload d_fe_goToField_57 rfl ?_
          refine V_iload d_fe_goToField_59 rfl ?_
          refine V_iconst (v := -1) d_fe_goToField_61 (by decide) ?_
          refine V_callV (N := so_add) d_fe_goToField_62 ml_fe_403 mdf_so_add wi_so_add wz_so_add (sp_so_add G hS (by rw [List.length_append] at hl; exact hl) (s.2 10 (8 * o + f)) (-1)) hSa ⟨_, rfl, rfl⟩ rfl rfl (by decide) (by decide) (Nat.le_of_ble_eq_true rfl) rfl rfl (kN fun h62 p62 => ?_)
          refine V_return d_fe_goToField_65 rfl ?_
          exact ⟨rfl, p62⟩
      · skip
        rw [if_neg (fun z => c24 z.2)] at hl ⊢
        refine V_aload d_fe_goToField_27 rfl ?_
        refine V_iload_n d_fe_goToField_29 rfl rfl ?_
        refine V_iload_n d_fe_goToField_30 rfl rfl ?_
        refine V_callV (N := so_add) d_fe_goToField_31 ml_fe_403 mdf_so_add wi_so_add wz_so_add (sp_so_add G hS (by rw [List.length_append] at hl; exact hl) (nI o) (nI f)) hSa ⟨_, rfl, rfl⟩ rfl rfl (by decide) (by decide) (Nat.le_of_ble_eq_true rfl) rfl rfl (kN fun h31 p31 => ?_)
        refine V_return d_fe_goToField_34 rfl ?_
        exact ⟨rfl, p31⟩
