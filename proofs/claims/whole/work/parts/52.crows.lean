/-! rows: withPlace, withoutPlace, sort; isLocked, wouldLoop -/
theorem RB.st {g g' : Gm} {h h' : Hp} {s : Mem} {D : Nat → Prop} (R : RB g h s) (hm : Sm s) (S : Stq g h D g' h') (hd : ∀ r, (1 ≤ r ∧ r < 22) ∨ (100 ≤ r ∧ r < 1100) → D r) : RB g' h' s := by
  obtain ⟨RX, RS, RO, RP, RW, RZ⟩ := R
  exact ⟨RX.st S (hd _ (by omega)) (fun r h1 h2 => S.2 r (hd r (by omega))), RS.st hm.1 S (hd _ (by omega)) (hd _ (by omega)) (fun r _ _ => hd r (by omega)), RO.st hm.2.1 S (hd _ (by omega)) (hd _ (by omega)) (fun r _ _ => hd r (by omega)), RP.st hm.2.2.1 S (hd _ (by omega)) (fun r _ _ => hd r (by omega)), RW.st hm.2.2.2 S (hd _ (by omega)) (fun r _ _ => hd r (by omega)), RZ.st S (fun r _ _ => hd r (by omega))⟩
theorem arrL_ints {n : Nat} {F : Nat → Int32} : ∀ v, v ∈ arrL n F → ∃ x, v = .int x := by
  intro v hv
  unfold arrL at hv
  obtain ⟨i, _, rfl⟩ := List.mem_map.mp hv
  exact ⟨_, rfl⟩
theorem arrL_ext {vs : List Value} {n : Nat} {F : Nat → Int32} (hl : vs.length = n) (h : ∀ i, i < n → vs[i]? = some (.int (F i))) : vs = arrL n F := by
  apply List.ext_getElem?
  intro i
  rcases Nat.lt_or_ge i n with q | q
  · rw [h i q, arrL_get _ q]
  · rw [List.getElem?_eq_none (by omega), List.getElem?_eq_none (by rw [arrL_len]; exact q)]
theorem arrL_getD {n : Nat} {F : Nat → Int32} {i : Nat} (hi : i < n) : (arrL n F).getD i .null = .int (F i) := by
  rw [List.getD_eq_getElem?_getD, arrL_get _ hi]
  rfl
def insP (P : Nat → Int32) (i : Nat) (u : Int32) (k : Nat) : Int32 := if k < i then P k else if k = i then u else P (k - 1)
def remP (P : Nat → Int32) (i : Nat) (k : Nat) : Int32 := if k < i then P k else P (k + 1)
theorem sp_fe_withPlace (G : Gk) {h : Hp} {r n i : Nat} {P : Nat → Int32} (hr : h r = some (20, arrL n P)) (hn : n < 6) (hi : i ≤ n) (u : Int32) : Ct G fe_withPlace [.ref r, .int (nI i), .int u] h (pR fun q h' => h q = none ∧ h' = hu h q (20, arrL (n + 1) (insP P i u))) := by
  refine Ct.ofL (M := fe_withPlace) (lv := [some (.ref r), some (.int (nI i)), some (.int u), none]) mdf_fe_withPlace rfl (Nat.le_of_ble_eq_true rfl) rfl ?_
  refine V_aload_n d_fe_withPlace_0 rfl rfl ?_
  refine V_alen d_fe_withPlace_1 hr (by decide) (by decide) ?_
  rw [arrL_len]
  refine V_iconst (v := 1) d_fe_withPlace_2 (by decide) ?_
  refine V_iadd d_fe_withPlace_3 ?_
  rw [nI_1]
  refine V.need (cr := 0 + 1) (sr := 0 + (n + 1)) ?_ (by decide) (by show 0 + (n + 1) ≤ 6; omega)
  refine V_newI (M := fe_withPlace) (n + 1) d_fe_withPlace_4 rfl (by omega) (fun q4 hq4 => ?_)
  have nrq : r ≠ q4 := fne hr hq4
  refine V_astore_n d_fe_withPlace_6 rfl (by decide) rfl rfl ?_
  dsimp only [List.set]
  refine V_aload_n d_fe_withPlace_7 rfl rfl ?_
  refine V_iconst (v := 0) d_fe_withPlace_8 (by decide) ?_
  refine V_aload_n d_fe_withPlace_9 rfl rfl ?_
  refine V_iconst (v := 0) d_fe_withPlace_10 (by decide) ?_
  refine V_iload_n d_fe_withPlace_11 rfl rfl ?_
  refine V_acpI 0 0 i d_fe_withPlace_12 ml_fe_311 (by rw [hu_ne _ _ nrq]; exact hr) (hu_self _ _ _) rfl rfl rfl (by rw [arrL_len]; omega) (by rw [List.length_replicate]; omega) (by rw [arrL_len]; omega) (by rw [List.length_replicate]; omega) arrL_ints (by decide) (Nat.le_of_ble_eq_true rfl) ?_
  rw [hu_hu]
  refine V_aload_n d_fe_withPlace_15 rfl rfl ?_
  refine V_iload_n d_fe_withPlace_16 rfl rfl ?_
  refine V_iload_n d_fe_withPlace_17 rfl rfl ?_
  refine V_iast i d_fe_withPlace_18 (hu_self _ _ _) rfl (by omega) (by rw [cpyL_len, List.length_replicate]; omega) ?_
  rw [hu_hu]
  refine V_aload_n d_fe_withPlace_19 rfl rfl ?_
  refine V_iload_n d_fe_withPlace_20 rfl rfl ?_
  refine V_aload_n d_fe_withPlace_21 rfl rfl ?_
  refine V_iload_n d_fe_withPlace_22 rfl rfl ?_
  refine V_iconst (v := 1) d_fe_withPlace_23 (by decide) ?_
  refine V_iadd d_fe_withPlace_24 ?_
  rw [nI_1]
  refine V_aload_n d_fe_withPlace_25 rfl rfl ?_
  refine V_alen d_fe_withPlace_26 (by rw [hu_ne _ _ nrq]; exact hr) (by decide) (by decide) ?_
  rw [arrL_len]
  refine V_iload_n d_fe_withPlace_27 rfl rfl ?_
  refine V_isub d_fe_withPlace_28 ?_
  rw [pk_sub (by omega)]
  refine V_acpI i (i + 1) (n - i) d_fe_withPlace_29 ml_fe_311 (by rw [hu_ne _ _ nrq]; exact hr) (hu_self _ _ _) rfl rfl rfl (by rw [arrL_len]; omega) (by rw [List.length_set, cpyL_len, List.length_replicate]; omega) (by rw [arrL_len]; omega) (by rw [List.length_set, cpyL_len, List.length_replicate]; omega) arrL_ints (by decide) (Nat.le_of_ble_eq_true rfl) ?_
  rw [hu_hu]
  refine V_aload_n d_fe_withPlace_32 rfl rfl ?_
  refine V_areturn d_fe_withPlace_33 rfl (by first | exact Or.inl ⟨_, rfl⟩ | exact Or.inr ⟨_, rfl⟩) (by first | exact Or.inl rfl | exact Or.inr ⟨_, rfl⟩) ?_
  refine ⟨_, rfl, hq4, ?_⟩
  congr 2
  refine arrL_ext (by rw [cpyL_len, List.length_set, cpyL_len, List.length_replicate]) (fun k hk => ?_)
  rw [cpyL_get (by rw [List.length_set, cpyL_len, List.length_replicate]; exact hk)]
  unfold insP
  by_cases z : k < i
  · (rw [if_neg (by omega), if_pos z, List.getD_eq_getElem?_getD, List.getElem?_set_ne (by omega), cpyL_get (by rw [List.length_replicate]; exact hk), if_pos (by omega), arrL_getD (by omega), show 0 + (k - 0) = k by omega]; rfl)
  by_cases y : k = i
  · (subst y; rw [if_neg (by omega), if_neg z, if_pos rfl, List.getD_eq_getElem?_getD, List.getElem?_set_self (by rw [cpyL_len, List.length_replicate]; exact hk)]; rfl)
  · (rw [if_pos (by omega), if_neg z, if_neg y, arrL_getD (by omega), show i + (k - (i + 1)) = k - 1 by omega])
theorem sp_fe_withoutPlace (G : Gk) {h : Hp} {r n i : Nat} {P : Nat → Int32} (hr : h r = some (20, arrL n P)) (hn : n ≤ 6) (hi : i < n) : Ct G fe_withoutPlace [.ref r, .int (nI i)] h (pR fun q h' => h q = none ∧ h' = hu h q (20, arrL (n - 1) (remP P i))) := by
  refine Ct.ofL (M := fe_withoutPlace) (lv := [some (.ref r), some (.int (nI i)), none]) mdf_fe_withoutPlace rfl (Nat.le_of_ble_eq_true rfl) rfl ?_
  refine V_aload_n d_fe_withoutPlace_0 rfl rfl ?_
  refine V_alen d_fe_withoutPlace_1 hr (by decide) (by decide) ?_
  rw [arrL_len]
  refine V_iconst (v := 1) d_fe_withoutPlace_2 (by decide) ?_
  refine V_isub d_fe_withoutPlace_3 ?_
  rw [ixm (by omega)]
  refine V.need (cr := 0 + 1) (sr := 0 + (n - 1)) ?_ (by decide) (by show 0 + (n - 1) ≤ 5; omega)
  refine V_newI (M := fe_withoutPlace) (n - 1) d_fe_withoutPlace_4 rfl (by omega) (fun q4 hq4 => ?_)
  have nrq : r ≠ q4 := fne hr hq4
  refine V_astore_n d_fe_withoutPlace_6 rfl (by decide) rfl rfl ?_
  dsimp only [List.set]
  refine V_aload_n d_fe_withoutPlace_7 rfl rfl ?_
  refine V_iconst (v := 0) d_fe_withoutPlace_8 (by decide) ?_
  refine V_aload_n d_fe_withoutPlace_9 rfl rfl ?_
  refine V_iconst (v := 0) d_fe_withoutPlace_10 (by decide) ?_
  refine V_iload_n d_fe_withoutPlace_11 rfl rfl ?_
  refine V_acpI 0 0 i d_fe_withoutPlace_12 ml_fe_311 (by rw [hu_ne _ _ nrq]; exact hr) (hu_self _ _ _) rfl rfl rfl (by rw [arrL_len]; omega) (by rw [List.length_replicate]; omega) (by rw [arrL_len]; omega) (by rw [List.length_replicate]; omega) arrL_ints (by decide) (Nat.le_of_ble_eq_true rfl) ?_
  rw [hu_hu]
  refine V_aload_n d_fe_withoutPlace_15 rfl rfl ?_
  refine V_iload_n d_fe_withoutPlace_16 rfl rfl ?_
  refine V_iconst (v := 1) d_fe_withoutPlace_17 (by decide) ?_
  refine V_iadd d_fe_withoutPlace_18 ?_
  rw [nI_1]
  refine V_aload_n d_fe_withoutPlace_19 rfl rfl ?_
  refine V_iload_n d_fe_withoutPlace_20 rfl rfl ?_
  refine V_aload_n d_fe_withoutPlace_21 rfl rfl ?_
  refine V_alen d_fe_withoutPlace_22 (hu_self _ _ _) (by decide) (by decide) ?_
  rw [cpyL_len, List.length_replicate]
  refine V_iload_n d_fe_withoutPlace_23 rfl rfl ?_
  refine V_isub d_fe_withoutPlace_24 ?_
  rw [pk_sub (by omega)]
  refine V_acpI (i + 1) i (n - 1 - i) d_fe_withoutPlace_25 ml_fe_311 (by rw [hu_ne _ _ nrq]; exact hr) (hu_self _ _ _) rfl rfl rfl (by rw [arrL_len]; omega) (by rw [cpyL_len, List.length_replicate]; omega) (by rw [arrL_len]; omega) (by rw [cpyL_len, List.length_replicate]; omega) arrL_ints (by decide) (Nat.le_of_ble_eq_true rfl) ?_
  rw [hu_hu]
  refine V_aload_n d_fe_withoutPlace_28 rfl rfl ?_
  refine V_areturn d_fe_withoutPlace_29 rfl (by first | exact Or.inl ⟨_, rfl⟩ | exact Or.inr ⟨_, rfl⟩) (by first | exact Or.inl rfl | exact Or.inr ⟨_, rfl⟩) ?_
  refine ⟨_, rfl, hq4, ?_⟩
  congr 2
  refine arrL_ext (by rw [cpyL_len, cpyL_len, List.length_replicate]) (fun k hk => ?_)
  rw [cpyL_get (by rw [cpyL_len, List.length_replicate]; exact hk)]
  unfold remP
  by_cases z : k < i
  · (rw [if_neg (by omega), if_pos z, List.getD_eq_getElem?_getD, cpyL_get (by rw [List.length_replicate]; exact hk), if_pos (by omega), arrL_getD (by omega), show 0 + (k - 0) = k by omega]; rfl)
  · (rw [if_pos (by omega), if_neg z, arrL_getD (by omega), show i + 1 + (k - i) = k + 1 by omega])
theorem sp_fe_goesAhead (G : Gk) (h : Hp) (a b fl : Int32) : Ct G fe_goesAhead [.int a, .int b, .int fl] h (pI fun r h' => h = h' ∧ r = b01 (ahd a b fl)) := by
  refine Ct.ofL (M := fe_goesAhead) (lv := [some (.int a), some (.int b), some (.int fl)]) mdf_fe_goesAhead rfl (Nat.le_of_ble_eq_true rfl) rfl ?_
  refine V_iload_n d_fe_goesAhead_0 rfl rfl ?_
  refine V_ldc d_fe_goesAhead_1 kc_fe_87 ?_
  refine V_icmp_ne d_fe_goesAhead_3 (fun c3 => ?_) (fun c3 => ?_)
  · skip
    refine V_iload_n d_fe_goesAhead_8 rfl rfl ?_
    refine V_ldc d_fe_goesAhead_9 kc_fe_87 ?_
    refine V_icmp_ne d_fe_goesAhead_11 (fun c11 => ?_) (fun c11 => ?_)
    · skip
      refine V_iload_n d_fe_goesAhead_16 rfl rfl ?_
      refine V_if_eq d_fe_goesAhead_17 (fun c17 => ?_) (fun c17 => ?_)
      · skip
        refine V_iload_n d_fe_goesAhead_33 rfl rfl ?_
        refine V_iload_n d_fe_goesAhead_34 rfl rfl ?_
        refine V_icmp_ge d_fe_goesAhead_35 (fun c35 => ?_) (fun c35 => ?_)
        · skip
          refine V_iconst (v := 0) d_fe_goesAhead_42 (by decide) ?_
          refine V_zreturn d_fe_goesAhead_43 rfl (by first | exact Or.inl rfl | exact Or.inr rfl) ?_
          refine ⟨_, rfl, rfl, (b01_f (fun q => ?_)).symm⟩
          have q2 := q.2.resolve_left c11
          rw [if_pos c17] at q2
          exact absurd q2 (Int32.not_lt.mpr c35)
        · skip
          refine V_iconst (v := 1) d_fe_goesAhead_38 (by decide) ?_
          refine V_goto d_fe_goesAhead_39 ?_
          refine V_zreturn d_fe_goesAhead_43 rfl (by first | exact Or.inl rfl | exact Or.inr rfl) ?_
          refine ⟨_, rfl, rfl, (b01_t ⟨c3, Or.inr ?_⟩).symm⟩
          rw [if_pos c17]
          exact Int32.not_le.mp c35
      · skip
        refine V_iload_n d_fe_goesAhead_20 rfl rfl ?_
        refine V_iload_n d_fe_goesAhead_21 rfl rfl ?_
        refine V_icmp_le d_fe_goesAhead_22 (fun c22 => ?_) (fun c22 => ?_)
        · skip
          refine V_iconst (v := 0) d_fe_goesAhead_29 (by decide) ?_
          refine V_goto d_fe_goesAhead_30 ?_
          refine V_zreturn d_fe_goesAhead_43 rfl (by first | exact Or.inl rfl | exact Or.inr rfl) ?_
          refine ⟨_, rfl, rfl, (b01_f (fun q => ?_)).symm⟩
          have q2 := q.2.resolve_left c11
          rw [if_neg c17] at q2
          exact absurd q2 (Int32.not_lt.mpr c22)
        · skip
          refine V_iconst (v := 1) d_fe_goesAhead_25 (by decide) ?_
          refine V_goto d_fe_goesAhead_26 ?_
          refine V_zreturn d_fe_goesAhead_43 rfl (by first | exact Or.inl rfl | exact Or.inr rfl) ?_
          refine ⟨_, rfl, rfl, (b01_t ⟨c3, Or.inr ?_⟩).symm⟩
          rw [if_neg c17]
          exact Int32.not_le.mp c22
    · skip
      refine V_iconst (v := 1) d_fe_goesAhead_14 (by decide) ?_
      refine V_zreturn d_fe_goesAhead_15 rfl (by first | exact Or.inl rfl | exact Or.inr rfl) ?_
      exact ⟨_, rfl, rfl, (b01_t ⟨c3, Or.inl c11⟩).symm⟩
  · skip
    refine V_iconst (v := 0) d_fe_goesAhead_6 (by decide) ?_
    refine V_zreturn d_fe_goesAhead_7 rfl (by first | exact Or.inl rfl | exact Or.inr rfl) ?_
    exact ⟨_, rfl, rfl, (b01_f (fun q => q.1 c3)).symm⟩
theorem sp_fe_swap (G : Gk) {h : Hp} {r n j : Nat} {w : Nat → Int32} (hr : h r = some (20, arrL n w)) (hj : j + 1 < n) (hn : n < 1000) : Ct G fe_swap [.ref r, .int (nI (j + 1))] h (pN fun h' => h' = hu h r (20, arrL n (upd (upd w (j + 1) (w j)) j (w (j + 1))))) := by
  refine Ct.ofL (M := fe_swap) (lv := [some (.ref r), some (.int (nI (j + 1))), none]) mdf_fe_swap rfl (Nat.le_of_ble_eq_true rfl) rfl ?_
  refine V_aload_n d_fe_swap_0 rfl rfl ?_
  refine V_iload_n d_fe_swap_1 rfl rfl ?_
  refine V_iald (j + 1) d_fe_swap_2 (by first | assumption | exact X.1 | exact hu_self _ _ _ | (simp (disch := first | assumption | (apply Ne.symm; assumption)) only [hu_self, hu_ne]; assumption)) rfl (by omega) (by first | assumption | exact arrL_get _ (by omega)) ?_
  refine V_istore_n d_fe_swap_3 rfl (by decide) rfl rfl ?_
  dsimp only [List.set]
  refine V_aload_n d_fe_swap_4 rfl rfl ?_
  refine V_iload_n d_fe_swap_5 rfl rfl ?_
  refine V_aload_n d_fe_swap_6 rfl rfl ?_
  refine V_iload_n d_fe_swap_7 rfl rfl ?_
  refine V_iconst (v := 1) d_fe_swap_8 (by decide) ?_
  refine V_isub d_fe_swap_9 ?_
  rw [ixm (by omega)]
  refine V_iald j d_fe_swap_10 hr rfl (by omega) (arrL_get _ (by omega)) ?_
  refine V_iast (j + 1) d_fe_swap_11 (by first | assumption | exact X.1 | exact hu_self _ _ _ | (simp (disch := first | assumption | (apply Ne.symm; assumption)) only [hu_self, hu_ne]; assumption)) rfl (by omega) (by first | assumption | (rw [arrL_len]; omega)) ?_
  rw [arrL_set _ _ hj]
  refine V_aload_n d_fe_swap_12 rfl rfl ?_
  refine V_iload_n d_fe_swap_13 rfl rfl ?_
  refine V_iconst (v := 1) d_fe_swap_14 (by decide) ?_
  refine V_isub d_fe_swap_15 ?_
  rw [ixm (by omega)]
  refine V_iload_n d_fe_swap_16 rfl rfl ?_
  refine V_iast j d_fe_swap_17 (hu_self _ _ _) rfl (by omega) (by rw [arrL_len]; omega) ?_
  rw [hu_hu, arrL_set _ _ (by omega)]
  refine V_return d_fe_swap_18 rfl ?_
  exact ⟨rfl, rfl⟩
theorem sp_fe_sortKey (G : Gk) {g : Gm} {h : Hp} {s : Mem} (R : RB g h s) (hm : Sm s) (ivs : IvS s) (ivo : IvO s) (ivf : IvF s) (ivv : IvV s) (ivt : IvT s) {o b : Nat} (ho : o < nO s) (hb : b < 8) : Ct G fe_sortKey [.ref (g.2 2), .int (nI o), .int (nI b)] h (pI fun r h' => r = wgt s o b ∧ RB g h' s ∧ Stq g h nSc g h') := by
  have X := R.1
  have n60 := ivo.2.1
  have n8 := (ivs.2.2.1 _ (ivo.2.2 o ho).2).2
  refine Ct.ofL (M := fe_sortKey) (lv := [some (.ref (g.2 2)), some (.int (nI o)), some (.int (nI b)), none]) mdf_fe_sortKey rfl (Nat.le_of_ble_eq_true rfl) rfl ?_
  refine V_aload_n d_fe_sortKey_0 rfl rfl ?_
  refine V_iload_n d_fe_sortKey_1 rfl rfl ?_
  refine V_iload_n d_fe_sortKey_2 rfl rfl ?_
  refine V_callV (N := fe_fieldOf) d_fe_sortKey_3 ml_fe_152 mdf_fe_fieldOf wi_fe_fieldOf wz_fe_fieldOf (sp_fe_fieldOf G R ivs ivo _ _) (by first | assumption | exact X.1 | exact hu_self _ _ _ | (simp (disch := first | assumption | (apply Ne.symm; assumption)) only [hu_self, hu_ne]; assumption)) ⟨_, rfl, rfl⟩ rfl rfl (by decide) (by decide) (Nat.le_of_ble_eq_true rfl) rfl rfl (kQ fun r3 h3 ⟨e3, z3⟩ => ?_)
  subst e3
  rcases z3 with ⟨no, rfl⟩ | ⟨o', j, c, ho', eo, hj, ej, im, rfl⟩
  · skip
    refine V_astore_nN d_fe_sortKey_6 rfl (by decide) rfl rfl ?_
    dsimp only [List.set]
    refine V_aload_nN d_fe_sortKey_7 rfl rfl ?_
    refine V_ifnullN d_fe_sortKey_8 ?_
    refine V_ldc d_fe_sortKey_27 kc_fe_87 ?_
    refine V_ireturn d_fe_sortKey_29 rfl ?_
    exact ⟨_, rfl, by rw [wgt, if_neg (fun q => q.elim fun j q => no ⟨o, j, ho, rfl, q.1, q.2.1⟩)], R, Stq.rf _ _ _⟩
  · skip
    refine V_astore_n d_fe_sortKey_6 rfl (by decide) rfl rfl ?_
    dsimp only [List.set]
    refine V_aload_n d_fe_sortKey_7 rfl rfl ?_
    refine V_ifnull d_fe_sortKey_8 ?_
    obtain rfl := nI_inj8 (by omega) (by omega) eo
    obtain rfl := nI_inj8 (by omega) (by omega) ej
    refine V_aload_n d_fe_sortKey_11 rfl rfl ?_
    refine V_callV (N := fd_isNumeric) d_fe_sortKey_12 ml_fe_127 mdf_fd_isNumeric wi_fd_isNumeric wz_fd_isNumeric (sp_fd_isNumeric G im.1) im.1 ⟨_, rfl, rfl⟩ rfl rfl (by decide) (by decide) (Nat.le_of_ble_eq_true rfl) rfl rfl (kI fun r12 h12 ⟨e12, f12⟩ => ?_)
    subst e12 f12
    refine V_if_eq d_fe_sortKey_15 (fun c15 => ?_) (fun c15 => ?_)
    · skip
      refine V_ldc d_fe_sortKey_27 kc_fe_87 ?_
      refine V_ireturn d_fe_sortKey_29 rfl ?_
      exact ⟨_, rfl, by rw [wgt, if_neg (fun q => b01_e c15 ((numF_iff n8 hj).mp q))], R, Stq.rf _ _ _⟩
    · skip
      refine V_aload_n d_fe_sortKey_18 rfl rfl ?_
      refine V_iload_n d_fe_sortKey_19 rfl rfl ?_
      refine V_iload_n d_fe_sortKey_20 rfl rfl ?_
      refine V_callV (N := fe_valueOf) d_fe_sortKey_21 ml_fe_156 mdf_fe_valueOf wi_fe_valueOf wz_fe_valueOf (sp_fe_valueOf G R hm ivs ivo ivf ivv ivt ho hj) (by first | assumption | exact X.1 | exact hu_self _ _ _ | (simp (disch := first | assumption | (apply Ne.symm; assumption)) only [hu_self, hu_ne]; assumption)) ⟨_, rfl, rfl⟩ rfl rfl (by decide) (by decide) (Nat.le_of_ble_eq_true rfl) rfl rfl (kI fun r21 h21 p21 => ?_)
      refine V_goto d_fe_sortKey_24 ?_
      refine V_ireturn d_fe_sortKey_29 rfl ?_
      exact ⟨_, rfl, by rw [wgt, if_pos ((numF_iff n8 hj).mpr (b01_ne c15))]; exact p21.1, p21.2⟩
