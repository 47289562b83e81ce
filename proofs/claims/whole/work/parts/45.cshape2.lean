/-! canFollow, told, number, link, derived -/
theorem arrL_congr {n : Nat} {u v : Nat → Int32} (h : ∀ i, i < n → u i = v i) : arrL n u = arrL n v := by
  unfold arrL
  apply List.map_congr_left
  intro i hi
  rw [h i (List.mem_range.mp hi)]
section Co
variable {g : Gm} {h : Hp} {s t : Mem}
theorem PX.co (H : PX g h s) (e0 : t.1 0 = s.1 0) (e8 : t.1 8 = s.1 8) (e33 : t.1 33 = s.1 33) (e25 : t.1 25 = s.1 25) : PX g h t := by
  unfold PX
  rw [e0, e8, e33, e25]
  exact H
theorem PS.co (H : PS g h s) (hn : nS t = nS s) (ha : ∀ i, i < nS s → t.2 1 i = s.2 1 i ∧ t.2 2 i = s.2 2 i ∧ (uS t i ↔ uS s i) ∧ ∀ j, j < nf s i → fdS t i j = fdS s i j) : PS g h t := by
  obtain ⟨L, q1, q2, q3⟩ := H
  refine ⟨L, q1, q2, fun i hi => ?_⟩
  rw [hn] at hi
  obtain ⟨a1, a2, a3, a4⟩ := ha i hi
  have e : nf t i = nf s i := by unfold nf; rw [a2]
  refine ⟨(q3 i hi).1, ?_, ?_⟩
  · rw [a1, a2, b01_i a3]
    exact (q3 i hi).2.1
  · obtain ⟨L2, w1, w2, w3⟩ := (q3 i hi).2.2
    refine ⟨L2, w1, w2, fun j hj => ?_⟩
    rw [e] at hj
    rw [a4 j hj]
    exact w3 j hj
theorem PO.co (H : PO g h s) (hn : nO t = nO s) (h9 : ∀ o, o < nO s → t.2 9 o = s.2 9 o) (hf : ∀ o, o < nO s → nf t (sh s o) = nf s (sh s o)) (hr : ∀ o f, o < nO s → f < nf s (sh s o) → rowN t o f = rowN s o f ∧ ∀ i, i < rowN s o f → rowF t o f i = rowF s o f i) : PO g h t := by
  obtain ⟨L, q1, q2, q3⟩ := H
  refine ⟨L, q1, q2, fun o ho => ?_⟩
  rw [hn] at ho
  obtain ⟨a, w1, w2, R, w3, w4, w5⟩ := q3 o ho
  have es : sh t o = sh s o := by unfold sh; rw [h9 o ho]
  refine ⟨a, w1, by rw [h9 o ho]; exact w2, R, by rw [es, hf o ho]; exact w3, w4, fun f hf2 => ?_⟩
  rw [es, hf o ho] at hf2
  rw [(hr o f ho hf2).1, arrL_congr (hr o f ho hf2).2]
  exact w5 f hf2
theorem PP.co (H : PP g h s) (hn : nP t = nP s) (ha : ∀ p, p < nP s → t.2 34 p = s.2 34 p ∧ ∀ i, i < sp s p → t.2 35 (5 * p + i) = s.2 35 (5 * p + i) ∧ t.2 36 (5 * p + i) = s.2 36 (5 * p + i)) : PP g h t := by
  obtain ⟨L, q1, q2, q3⟩ := H
  refine ⟨L, q1, q2, fun p hp => ?_⟩
  rw [hn] at hp
  obtain ⟨w1, w2, u, v, w3, w4, w5⟩ := q3 p hp
  obtain ⟨a1, a2⟩ := ha p hp
  have e : sp t p = sp s p := by unfold sp; rw [a1]
  refine ⟨w1, by rw [a1]; exact w2, u, v, w3, w4, fun i hi => ?_⟩
  rw [e] at hi
  rw [(a2 i hi).1, (a2 i hi).2]
  exact w5 i hi
theorem PW.co (H : PW g h s) (e : t.1 25 = s.1 25) (a26 : t.2 26 = s.2 26) (a27 : t.2 27 = s.2 27) (a28 : t.2 28 = s.2 28) (a29 : t.2 29 = s.2 29) (a30 : t.2 30 = s.2 30) (a31 : t.2 31 = s.2 31) : PW g h t := by
  have ew : nW t = nW s := by unfold nW; rw [e]
  have ec : wc t = wc s := by funext i; unfold wc; rw [a30]
  unfold PW PWi
  rw [ew, a26, a27, a28, a29, a30, ec, a31]
  exact H
end Co
theorem numF_iff {s : Mem} {i j : Nat} (n8 : nf s i ≤ 8) (hj : j < nf s i) : numF s i (nI j) ↔ (s.2 3 (8 * i + j) = 0 ∨ s.2 3 (8 * i + j) = 3) :=
  ⟨fun ⟨j', h1, h2, h3⟩ => by rw [nI_inj8 (by omega) (by omega) h2]; exact h3, fun q => ⟨j, hj, rfl, q⟩⟩
theorem kindF_iff {s : Mem} {i j : Nat} {k : Int32} (n8 : nf s i ≤ 8) (hj : j < nf s i) : kindF s i (nI j) k ↔ s.2 3 (8 * i + j) = k :=
  ⟨fun ⟨j', h1, h2, h3⟩ => by rw [nI_inj8 (by omega) (by omega) h2]; exact h3, fun q => ⟨j, hj, rfl, q⟩⟩
theorem mayF_012 {s : Mem} {i : Nat} {c f y : Int32} (hc : c = 0 ∨ c = 1 ∨ c = 2) : mayF s i c f y ↔ numF s i f ∧ numF s i y := by
  rcases hc with rfl | rfl | rfl <;> simp [mayF]
theorem mayF_3 {s : Mem} {i : Nat} {f y : Int32} : mayF s i 3 f y ↔ kindF s i f 2 := by simp [mayF]
theorem mayF_4 {s : Mem} {i : Nat} {f y : Int32} : mayF s i 4 f y ↔ kindF s i f 2 ∧ ∃ j t, j < nf s i ∧ f = nI j ∧ t < nS s ∧ s.2 4 (8 * i + j) = nI t ∧ kindF s t y 0 := by simp [mayF]
theorem mayF_5 {s : Mem} {i : Nat} {f y : Int32} : mayF s i 5 f y ↔ inF s i f := by simp [mayF]
theorem mayF_o {s : Mem} {i : Nat} {c f y : Int32} (h0 : ¬ c = 0) (h1 : ¬ c = 1) (h2 : ¬ c = 2) (h3 : ¬ c = 3) (h4 : ¬ c = 4) (h5 : ¬ c = 5) : ¬ mayF s i c f y := by simp [mayF, h0, h1, h2, h3, h4, h5]
theorem inF_i {s : Mem} {i j : Nat} (ivs : IvS s) (hi : i < nS s) (hj : j < nf s i) : inF s i (nI j) := Classical.byContradiction fun q => inF.no ivs hi q j hj rfl
theorem FdA.num {s : Mem} {i : Nat} {f : Int32} (hN : ∀ j, j < nf s i → f ≠ nI j) : ¬ numF s i f := fun ⟨j, h1, h2, _⟩ => hN j h1 h2
theorem sp_fe_canFollow (G : Gk) {g : Gm} {h : Hp} {s : Mem} (X : PX g h s) (S : PS g h s) (ivs : IvS s) (ivf : IvF s) {i : Nat} (hi : i < nS s) (c f y : Int32) : Ct G fe_canFollow [.ref (g.2 2), .ref (g.2 (100 + i)), .int c, .int f, .int y] h (pI fun r h' => h = h' ∧ r = b01 (mayF s i c f y)) := by
  obtain ⟨L, l1, l2, l3⟩ := S
  have Hi := (l3 i hi).2
  have n8 := (ivs.2.2.1 i hi).2
  have n10 := ivs.2.1
  refine Ct.ofL (M := fe_canFollow) (lv := [some (.ref (g.2 2)), some (.ref (g.2 (100 + i))), some (.int c), some (.int f), some (.int y), none, none, none]) mdf_fe_canFollow rfl (Nat.le_of_ble_eq_true rfl) rfl ?_
  refine V_aload_n d_fe_canFollow_0 rfl rfl ?_
  refine V_iload_n d_fe_canFollow_1 rfl rfl ?_
  refine V_callV (N := sh_fieldAt) d_fe_canFollow_2 ml_fe_105 mdf_sh_fieldAt wi_sh_fieldAt wz_sh_fieldAt (sp_fe_fieldAt G ivs hi Hi f) Hi.1.1 ⟨_, rfl, rfl⟩ rfl rfl (by decide) (by decide) (Nat.le_of_ble_eq_true rfl) rfl rfl (kQ fun r2 h2 ⟨e2, z2⟩ => ?_)
  subst e2
  rcases z2 with ⟨no, rfl⟩ | ⟨j, a, hj, rfl, im, rfl⟩
  · skip
    refine V_astoreN d_fe_canFollow_5 (by decide) rfl rfl ?_
    dsimp only [List.set]
    refine V_aloadN d_fe_canFollow_7 rfl ?_
    refine V_ifnonnullN d_fe_canFollow_9 ?_
    refine V_iconst (v := 0) d_fe_canFollow_12 (by decide) ?_
    refine V_zreturn d_fe_canFollow_13 rfl (by first | exact Or.inl rfl | exact Or.inr rfl) ?_
    refine ⟨_, rfl, rfl, (b01_f ?_).symm⟩
    rintro (⟨_, q, _⟩ | ⟨_, q⟩ | ⟨_, q, _⟩ | ⟨_, q⟩)
    · (obtain ⟨j, h1, h2, _⟩ := q; exact no j h1 h2)
    · (obtain ⟨j, h1, h2, _⟩ := q; exact no j h1 h2)
    · (obtain ⟨j, h1, h2, _⟩ := q; exact no j h1 h2)
    · (obtain ⟨j, h1, h2⟩ := inF.ix ivs hi q; exact no j h1 h2)
  · skip
    refine V_astore d_fe_canFollow_5 (by decide) rfl rfl ?_
    dsimp only [List.set]
    refine V_aload d_fe_canFollow_7 rfl ?_
    refine V_ifnonnull d_fe_canFollow_9 ?_
    refine V_iload_n d_fe_canFollow_14 rfl rfl ?_
    by_cases w15_0 : c = 0
    · skip
      subst w15_0
      refine V_tableIn (off := 33) (tgt := 48) d_fe_canFollow_15 (by decide) (by decide) rfl (by decide) ?_
      refine V_aload_n d_fe_canFollow_48 rfl rfl ?_
      refine V_iload d_fe_canFollow_49 rfl ?_
      refine V_callV (N := sh_fieldAt) d_fe_canFollow_51 ml_fe_105 mdf_sh_fieldAt wi_sh_fieldAt wz_sh_fieldAt (sp_fe_fieldAt G ivs hi Hi y) Hi.1.1 ⟨_, rfl, rfl⟩ rfl rfl (by decide) (by decide) (Nat.le_of_ble_eq_true rfl) rfl rfl (kQ fun r51 h51 ⟨e51, z51⟩ => ?_)
      subst e51
      rcases z51 with ⟨no, rfl⟩ | ⟨j2, a2, hj2, rfl, im2, rfl⟩
      · skip
        refine V_astoreN d_fe_canFollow_54 (by decide) rfl rfl ?_
        dsimp only [List.set]
        refine V_aload d_fe_canFollow_56 rfl ?_
        refine V_callV (N := fd_isNumeric) d_fe_canFollow_58 ml_fe_127 mdf_fd_isNumeric wi_fd_isNumeric wz_fd_isNumeric (sp_fd_isNumeric G im.1) im.1 ⟨_, rfl, rfl⟩ rfl rfl (by decide) (by decide) (Nat.le_of_ble_eq_true rfl) rfl rfl (kI fun r58 h58 ⟨e58, f58⟩ => ?_)
        subst e58 f58
        refine V_if_eq d_fe_canFollow_61 (fun c61 => ?_) (fun c61 => ?_)
        · skip
          refine V_iconst (v := 0) d_fe_canFollow_81 (by decide) ?_
          refine V_zreturn d_fe_canFollow_82 rfl (by first | exact Or.inl rfl | exact Or.inr rfl) ?_
          refine ⟨_, rfl, rfl, ?_⟩
          rw [b01_i (mayF_012 (by first | exact Or.inl rfl | exact Or.inr (Or.inl rfl) | exact Or.inr (Or.inr rfl)))]
          first | exact (b01_f (fun q => b01_e c61 ((numF_iff n8 hj).mp q.1))).symm | exact (b01_f (fun q => FdA.num no q.2)).symm | exact (b01_f (fun q => b01_e c74 ((numF_iff n8 hj2).mp q.2))).symm | exact (b01_t ⟨(numF_iff n8 hj).mpr (b01_ne c61), (numF_iff n8 hj2).mpr (b01_ne c74)⟩).symm
        · skip
          refine V_aloadN d_fe_canFollow_64 rfl ?_
          refine V_ifnullN d_fe_canFollow_66 ?_
          refine V_iconst (v := 0) d_fe_canFollow_81 (by decide) ?_
          refine V_zreturn d_fe_canFollow_82 rfl (by first | exact Or.inl rfl | exact Or.inr rfl) ?_
          refine ⟨_, rfl, rfl, ?_⟩
          rw [b01_i (mayF_012 (by first | exact Or.inl rfl | exact Or.inr (Or.inl rfl) | exact Or.inr (Or.inr rfl)))]
          first | exact (b01_f (fun q => b01_e c61 ((numF_iff n8 hj).mp q.1))).symm | exact (b01_f (fun q => FdA.num no q.2)).symm | exact (b01_f (fun q => b01_e c74 ((numF_iff n8 hj2).mp q.2))).symm | exact (b01_t ⟨(numF_iff n8 hj).mpr (b01_ne c61), (numF_iff n8 hj2).mpr (b01_ne c74)⟩).symm
      · skip
        refine V_astore d_fe_canFollow_54 (by decide) rfl rfl ?_
        dsimp only [List.set]
        refine V_aload d_fe_canFollow_56 rfl ?_
        refine V_callV (N := fd_isNumeric) d_fe_canFollow_58 ml_fe_127 mdf_fd_isNumeric wi_fd_isNumeric wz_fd_isNumeric (sp_fd_isNumeric G im.1) im.1 ⟨_, rfl, rfl⟩ rfl rfl (by decide) (by decide) (Nat.le_of_ble_eq_true rfl) rfl rfl (kI fun r58 h58 ⟨e58, f58⟩ => ?_)
        subst e58 f58
        refine V_if_eq d_fe_canFollow_61 (fun c61 => ?_) (fun c61 => ?_)
        · skip
          refine V_iconst (v := 0) d_fe_canFollow_81 (by decide) ?_
          refine V_zreturn d_fe_canFollow_82 rfl (by first | exact Or.inl rfl | exact Or.inr rfl) ?_
          refine ⟨_, rfl, rfl, ?_⟩
          rw [b01_i (mayF_012 (by first | exact Or.inl rfl | exact Or.inr (Or.inl rfl) | exact Or.inr (Or.inr rfl)))]
          first | exact (b01_f (fun q => b01_e c61 ((numF_iff n8 hj).mp q.1))).symm | exact (b01_f (fun q => FdA.num no q.2)).symm | exact (b01_f (fun q => b01_e c74 ((numF_iff n8 hj2).mp q.2))).symm | exact (b01_t ⟨(numF_iff n8 hj).mpr (b01_ne c61), (numF_iff n8 hj2).mpr (b01_ne c74)⟩).symm
        · skip
          refine V_aload d_fe_canFollow_64 rfl ?_
          refine V_ifnull d_fe_canFollow_66 ?_
          refine V_aload d_fe_canFollow_69 rfl ?_
          refine V_callV (N := fd_isNumeric) d_fe_canFollow_71 ml_fe_127 mdf_fd_isNumeric wi_fd_isNumeric wz_fd_isNumeric (sp_fd_isNumeric G im2.1) im2.1 ⟨_, rfl, rfl⟩ rfl rfl (by decide) (by decide) (Nat.le_of_ble_eq_true rfl) rfl rfl (kI fun r71 h71 ⟨e71, f71⟩ => ?_)
          subst e71 f71
          refine V_if_eq d_fe_canFollow_74 (fun c74 => ?_) (fun c74 => ?_)
          · skip
            refine V_iconst (v := 0) d_fe_canFollow_81 (by decide) ?_
            refine V_zreturn d_fe_canFollow_82 rfl (by first | exact Or.inl rfl | exact Or.inr rfl) ?_
            refine ⟨_, rfl, rfl, ?_⟩
            rw [b01_i (mayF_012 (by first | exact Or.inl rfl | exact Or.inr (Or.inl rfl) | exact Or.inr (Or.inr rfl)))]
            first | exact (b01_f (fun q => b01_e c61 ((numF_iff n8 hj).mp q.1))).symm | exact (b01_f (fun q => FdA.num no q.2)).symm | exact (b01_f (fun q => b01_e c74 ((numF_iff n8 hj2).mp q.2))).symm | exact (b01_t ⟨(numF_iff n8 hj).mpr (b01_ne c61), (numF_iff n8 hj2).mpr (b01_ne c74)⟩).symm
          · skip
            refine V_iconst (v := 1) d_fe_canFollow_77 (by decide) ?_
            refine V_goto d_fe_canFollow_78 ?_
            refine V_zreturn d_fe_canFollow_82 rfl (by first | exact Or.inl rfl | exact Or.inr rfl) ?_
            refine ⟨_, rfl, rfl, ?_⟩
            rw [b01_i (mayF_012 (by first | exact Or.inl rfl | exact Or.inr (Or.inl rfl) | exact Or.inr (Or.inr rfl)))]
            first | exact (b01_f (fun q => b01_e c61 ((numF_iff n8 hj).mp q.1))).symm | exact (b01_f (fun q => FdA.num no q.2)).symm | exact (b01_f (fun q => b01_e c74 ((numF_iff n8 hj2).mp q.2))).symm | exact (b01_t ⟨(numF_iff n8 hj).mpr (b01_ne c61), (numF_iff n8 hj2).mpr (b01_ne c74)⟩).symm
    by_cases w15_1 : c = 1
    · skip
      subst w15_1
      refine V_tableIn (off := 33) (tgt := 48) d_fe_canFollow_15 (by decide) (by decide) rfl (by decide) ?_
      refine V_aload_n d_fe_canFollow_48 rfl rfl ?_
      refine V_iload d_fe_canFollow_49 rfl ?_
      refine V_callV (N := sh_fieldAt) d_fe_canFollow_51 ml_fe_105 mdf_sh_fieldAt wi_sh_fieldAt wz_sh_fieldAt (sp_fe_fieldAt G ivs hi Hi y) Hi.1.1 ⟨_, rfl, rfl⟩ rfl rfl (by decide) (by decide) (Nat.le_of_ble_eq_true rfl) rfl rfl (kQ fun r51 h51 ⟨e51, z51⟩ => ?_)
      subst e51
      rcases z51 with ⟨no, rfl⟩ | ⟨j2, a2, hj2, rfl, im2, rfl⟩
      · skip
        refine V_astoreN d_fe_canFollow_54 (by decide) rfl rfl ?_
        dsimp only [List.set]
        refine V_aload d_fe_canFollow_56 rfl ?_
        refine V_callV (N := fd_isNumeric) d_fe_canFollow_58 ml_fe_127 mdf_fd_isNumeric wi_fd_isNumeric wz_fd_isNumeric (sp_fd_isNumeric G im.1) im.1 ⟨_, rfl, rfl⟩ rfl rfl (by decide) (by decide) (Nat.le_of_ble_eq_true rfl) rfl rfl (kI fun r58 h58 ⟨e58, f58⟩ => ?_)
        subst e58 f58
        refine V_if_eq d_fe_canFollow_61 (fun c61 => ?_) (fun c61 => ?_)
        · skip
          refine V_iconst (v := 0) d_fe_canFollow_81 (by decide) ?_
          refine V_zreturn d_fe_canFollow_82 rfl (by first | exact Or.inl rfl | exact Or.inr rfl) ?_
          refine ⟨_, rfl, rfl, ?_⟩
          rw [b01_i (mayF_012 (by first | exact Or.inl rfl | exact Or.inr (Or.inl rfl) | exact Or.inr (Or.inr rfl)))]
          first | exact (b01_f (fun q => b01_e c61 ((numF_iff n8 hj).mp q.1))).symm | exact (b01_f (fun q => FdA.num no q.2)).symm | exact (b01_f (fun q => b01_e c74 ((numF_iff n8 hj2).mp q.2))).symm | exact (b01_t ⟨(numF_iff n8 hj).mpr (b01_ne c61), (numF_iff n8 hj2).mpr (b01_ne c74)⟩).symm
        · skip
          refine V_aloadN d_fe_canFollow_64 rfl ?_
          refine V_ifnullN d_fe_canFollow_66 ?_
          refine V_iconst (v := 0) d_fe_canFollow_81 (by decide) ?_
          refine V_zreturn d_fe_canFollow_82 rfl (by first | exact Or.inl rfl | exact Or.inr rfl) ?_
          refine ⟨_, rfl, rfl, ?_⟩
          rw [b01_i (mayF_012 (by first | exact Or.inl rfl | exact Or.inr (Or.inl rfl) | exact Or.inr (Or.inr rfl)))]
          first | exact (b01_f (fun q => b01_e c61 ((numF_iff n8 hj).mp q.1))).symm | exact (b01_f (fun q => FdA.num no q.2)).symm | exact (b01_f (fun q => b01_e c74 ((numF_iff n8 hj2).mp q.2))).symm | exact (b01_t ⟨(numF_iff n8 hj).mpr (b01_ne c61), (numF_iff n8 hj2).mpr (b01_ne c74)⟩).symm
      · skip
        refine V_astore d_fe_canFollow_54 (by decide) rfl rfl ?_
        dsimp only [List.set]
        refine V_aload d_fe_canFollow_56 rfl ?_
        refine V_callV (N := fd_isNumeric) d_fe_canFollow_58 ml_fe_127 mdf_fd_isNumeric wi_fd_isNumeric wz_fd_isNumeric (sp_fd_isNumeric G im.1) im.1 ⟨_, rfl, rfl⟩ rfl rfl (by decide) (by decide) (Nat.le_of_ble_eq_true rfl) rfl rfl (kI fun r58 h58 ⟨e58, f58⟩ => ?_)
        subst e58 f58
        refine V_if_eq d_fe_canFollow_61 (fun c61 => ?_) (fun c61 => ?_)
        · skip
          refine V_iconst (v := 0) d_fe_canFollow_81 (by decide) ?_
          refine V_zreturn d_fe_canFollow_82 rfl (by first | exact Or.inl rfl | exact Or.inr rfl) ?_
          refine ⟨_, rfl, rfl, ?_⟩
          rw [b01_i (mayF_012 (by first | exact Or.inl rfl | exact Or.inr (Or.inl rfl) | exact Or.inr (Or.inr rfl)))]
          first | exact (b01_f (fun q => b01_e c61 ((numF_iff n8 hj).mp q.1))).symm | exact (b01_f (fun q => FdA.num no q.2)).symm | exact (b01_f (fun q => b01_e c74 ((numF_iff n8 hj2).mp q.2))).symm | exact (b01_t ⟨(numF_iff n8 hj).mpr (b01_ne c61), (numF_iff n8 hj2).mpr (b01_ne c74)⟩).symm
        · skip
          refine V_aload d_fe_canFollow_64 rfl ?_
          refine V_ifnull d_fe_canFollow_66 ?_
          refine V_aload d_fe_canFollow_69 rfl ?_
          refine V_callV (N := fd_isNumeric) d_fe_canFollow_71 ml_fe_127 mdf_fd_isNumeric wi_fd_isNumeric wz_fd_isNumeric (sp_fd_isNumeric G im2.1) im2.1 ⟨_, rfl, rfl⟩ rfl rfl (by decide) (by decide) (Nat.le_of_ble_eq_true rfl) rfl rfl (kI fun r71 h71 ⟨e71, f71⟩ => ?_)
          subst e71 f71
          refine V_if_eq d_fe_canFollow_74 (fun c74 => ?_) (fun c74 => ?_)
          · skip
            refine V_iconst (v := 0) d_fe_canFollow_81 (by decide) ?_
            refine V_zreturn d_fe_canFollow_82 rfl (by first | exact Or.inl rfl | exact Or.inr rfl) ?_
            refine ⟨_, rfl, rfl, ?_⟩
            rw [b01_i (mayF_012 (by first | exact Or.inl rfl | exact Or.inr (Or.inl rfl) | exact Or.inr (Or.inr rfl)))]
            first | exact (b01_f (fun q => b01_e c61 ((numF_iff n8 hj).mp q.1))).symm | exact (b01_f (fun q => FdA.num no q.2)).symm | exact (b01_f (fun q => b01_e c74 ((numF_iff n8 hj2).mp q.2))).symm | exact (b01_t ⟨(numF_iff n8 hj).mpr (b01_ne c61), (numF_iff n8 hj2).mpr (b01_ne c74)⟩).symm
          · skip
            refine V_iconst (v := 1) d_fe_canFollow_77 (by decide) ?_
            refine V_goto d_fe_canFollow_78 ?_
            refine V_zreturn d_fe_canFollow_82 rfl (by first | exact Or.inl rfl | exact Or.inr rfl) ?_
            refine ⟨_, rfl, rfl, ?_⟩
            rw [b01_i (mayF_012 (by first | exact Or.inl rfl | exact Or.inr (Or.inl rfl) | exact Or.inr (Or.inr rfl)))]
            first | exact (b01_f (fun q => b01_e c61 ((numF_iff n8 hj).mp q.1))).symm | exact (b01_f (fun q => FdA.num no q.2)).symm | exact (b01_f (fun q => b01_e c74 ((numF_iff n8 hj2).mp q.2))).symm | exact (b01_t ⟨(numF_iff n8 hj).mpr (b01_ne c61), (numF_iff n8 hj2).mpr (b01_ne c74)⟩).symm
    by_cases w15_2 : c = 2
    · skip
      subst w15_2
      refine V_tableIn (off := 33) (tgt := 48) d_fe_canFollow_15 (by decide) (by decide) rfl (by decide) ?_
      refine V_aload_n d_fe_canFollow_48 rfl rfl ?_
      refine V_iload d_fe_canFollow_49 rfl ?_
      refine V_callV (N := sh_fieldAt) d_fe_canFollow_51 ml_fe_105 mdf_sh_fieldAt wi_sh_fieldAt wz_sh_fieldAt (sp_fe_fieldAt G ivs hi Hi y) Hi.1.1 ⟨_, rfl, rfl⟩ rfl rfl (by decide) (by decide) (Nat.le_of_ble_eq_true rfl) rfl rfl (kQ fun r51 h51 ⟨e51, z51⟩ => ?_)
      subst e51
      rcases z51 with ⟨no, rfl⟩ | ⟨j2, a2, hj2, rfl, im2, rfl⟩
      · skip
        refine V_astoreN d_fe_canFollow_54 (by decide) rfl rfl ?_
        dsimp only [List.set]
        refine V_aload d_fe_canFollow_56 rfl ?_
        refine V_callV (N := fd_isNumeric) d_fe_canFollow_58 ml_fe_127 mdf_fd_isNumeric wi_fd_isNumeric wz_fd_isNumeric (sp_fd_isNumeric G im.1) im.1 ⟨_, rfl, rfl⟩ rfl rfl (by decide) (by decide) (Nat.le_of_ble_eq_true rfl) rfl rfl (kI fun r58 h58 ⟨e58, f58⟩ => ?_)
        subst e58 f58
        refine V_if_eq d_fe_canFollow_61 (fun c61 => ?_) (fun c61 => ?_)
        · skip
          refine V_iconst (v := 0) d_fe_canFollow_81 (by decide) ?_
          refine V_zreturn d_fe_canFollow_82 rfl (by first | exact Or.inl rfl | exact Or.inr rfl) ?_
          refine ⟨_, rfl, rfl, ?_⟩
          rw [b01_i (mayF_012 (by first | exact Or.inl rfl | exact Or.inr (Or.inl rfl) | exact Or.inr (Or.inr rfl)))]
          first | exact (b01_f (fun q => b01_e c61 ((numF_iff n8 hj).mp q.1))).symm | exact (b01_f (fun q => FdA.num no q.2)).symm | exact (b01_f (fun q => b01_e c74 ((numF_iff n8 hj2).mp q.2))).symm | exact (b01_t ⟨(numF_iff n8 hj).mpr (b01_ne c61), (numF_iff n8 hj2).mpr (b01_ne c74)⟩).symm
        · skip
          refine V_aloadN d_fe_canFollow_64 rfl ?_
          refine V_ifnullN d_fe_canFollow_66 ?_
          refine V_iconst (v := 0) d_fe_canFollow_81 (by decide) ?_
          refine V_zreturn d_fe_canFollow_82 rfl (by first | exact Or.inl rfl | exact Or.inr rfl) ?_
          refine ⟨_, rfl, rfl, ?_⟩
          rw [b01_i (mayF_012 (by first | exact Or.inl rfl | exact Or.inr (Or.inl rfl) | exact Or.inr (Or.inr rfl)))]
          first | exact (b01_f (fun q => b01_e c61 ((numF_iff n8 hj).mp q.1))).symm | exact (b01_f (fun q => FdA.num no q.2)).symm | exact (b01_f (fun q => b01_e c74 ((numF_iff n8 hj2).mp q.2))).symm | exact (b01_t ⟨(numF_iff n8 hj).mpr (b01_ne c61), (numF_iff n8 hj2).mpr (b01_ne c74)⟩).symm
      · skip
        refine V_astore d_fe_canFollow_54 (by decide) rfl rfl ?_
        dsimp only [List.set]
        refine V_aload d_fe_canFollow_56 rfl ?_
        refine V_callV (N := fd_isNumeric) d_fe_canFollow_58 ml_fe_127 mdf_fd_isNumeric wi_fd_isNumeric wz_fd_isNumeric (sp_fd_isNumeric G im.1) im.1 ⟨_, rfl, rfl⟩ rfl rfl (by decide) (by decide) (Nat.le_of_ble_eq_true rfl) rfl rfl (kI fun r58 h58 ⟨e58, f58⟩ => ?_)
        subst e58 f58
        refine V_if_eq d_fe_canFollow_61 (fun c61 => ?_) (fun c61 => ?_)
        · skip
          refine V_iconst (v := 0) d_fe_canFollow_81 (by decide) ?_
          refine V_zreturn d_fe_canFollow_82 rfl (by first | exact Or.inl rfl | exact Or.inr rfl) ?_
          refine ⟨_, rfl, rfl, ?_⟩
          rw [b01_i (mayF_012 (by first | exact Or.inl rfl | exact Or.inr (Or.inl rfl) | exact Or.inr (Or.inr rfl)))]
          first | exact (b01_f (fun q => b01_e c61 ((numF_iff n8 hj).mp q.1))).symm | exact (b01_f (fun q => FdA.num no q.2)).symm | exact (b01_f (fun q => b01_e c74 ((numF_iff n8 hj2).mp q.2))).symm | exact (b01_t ⟨(numF_iff n8 hj).mpr (b01_ne c61), (numF_iff n8 hj2).mpr (b01_ne c74)⟩).symm
        · skip
          refine V_aload d_fe_canFollow_64 rfl ?_
          refine V_ifnull d_fe_canFollow_66 ?_
          refine V_aload d_fe_canFollow_69 rfl ?_
          refine V_callV (N := fd_isNumeric) d_fe_canFollow_71 ml_fe_127 mdf_fd_isNumeric wi_fd_isNumeric wz_fd_isNumeric (sp_fd_isNumeric G im2.1) im2.1 ⟨_, rfl, rfl⟩ rfl rfl (by decide) (by decide) (Nat.le_of_ble_eq_true rfl) rfl rfl (kI fun r71 h71 ⟨e71, f71⟩ => ?_)
          subst e71 f71
          refine V_if_eq d_fe_canFollow_74 (fun c74 => ?_) (fun c74 => ?_)
          · skip
            refine V_iconst (v := 0) d_fe_canFollow_81 (by decide) ?_
            refine V_zreturn d_fe_canFollow_82 rfl (by first | exact Or.inl rfl | exact Or.inr rfl) ?_
            refine ⟨_, rfl, rfl, ?_⟩
            rw [b01_i (mayF_012 (by first | exact Or.inl rfl | exact Or.inr (Or.inl rfl) | exact Or.inr (Or.inr rfl)))]
            first | exact (b01_f (fun q => b01_e c61 ((numF_iff n8 hj).mp q.1))).symm | exact (b01_f (fun q => FdA.num no q.2)).symm | exact (b01_f (fun q => b01_e c74 ((numF_iff n8 hj2).mp q.2))).symm | exact (b01_t ⟨(numF_iff n8 hj).mpr (b01_ne c61), (numF_iff n8 hj2).mpr (b01_ne c74)⟩).symm
          · skip
            refine V_iconst (v := 1) d_fe_canFollow_77 (by decide) ?_
            refine V_goto d_fe_canFollow_78 ?_
            refine V_zreturn d_fe_canFollow_82 rfl (by first | exact Or.inl rfl | exact Or.inr rfl) ?_
            refine ⟨_, rfl, rfl, ?_⟩
            rw [b01_i (mayF_012 (by first | exact Or.inl rfl | exact Or.inr (Or.inl rfl) | exact Or.inr (Or.inr rfl)))]
            first | exact (b01_f (fun q => b01_e c61 ((numF_iff n8 hj).mp q.1))).symm | exact (b01_f (fun q => FdA.num no q.2)).symm | exact (b01_f (fun q => b01_e c74 ((numF_iff n8 hj2).mp q.2))).symm | exact (b01_t ⟨(numF_iff n8 hj).mpr (b01_ne c61), (numF_iff n8 hj2).mpr (b01_ne c74)⟩).symm
    by_cases w15_3 : c = 3
    · skip
      subst w15_3
      refine V_tableIn (off := 68) (tgt := 83) d_fe_canFollow_15 (by decide) (by decide) rfl (by decide) ?_
      refine V_aload d_fe_canFollow_83 rfl ?_
      refine V_getf d_fe_canFollow_85 fl_fe_109 im.1 rfl ?_
      refine V_iconst (v := 2) d_fe_canFollow_88 (by decide) ?_
      refine V_icmp_ne d_fe_canFollow_89 (fun c89 => ?_) (fun c89 => ?_)
      · skip
        refine V_iconst (v := 0) d_fe_canFollow_96 (by decide) ?_
        refine V_zreturn d_fe_canFollow_97 rfl (by first | exact Or.inl rfl | exact Or.inr rfl) ?_
        refine ⟨_, rfl, rfl, ?_⟩
        rw [b01_i mayF_3, b01_i (kindF_iff n8 hj)]
        first | exact (b01_t c89).symm | exact (b01_f c89).symm
      · skip
        refine V_iconst (v := 1) d_fe_canFollow_92 (by decide) ?_
        refine V_goto d_fe_canFollow_93 ?_
        refine V_zreturn d_fe_canFollow_97 rfl (by first | exact Or.inl rfl | exact Or.inr rfl) ?_
        refine ⟨_, rfl, rfl, ?_⟩
        rw [b01_i mayF_3, b01_i (kindF_iff n8 hj)]
        first | exact (b01_t c89).symm | exact (b01_f c89).symm
    by_cases w15_4 : c = 4
    · skip
      subst w15_4
      refine V_tableIn (off := 83) (tgt := 98) d_fe_canFollow_15 (by decide) (by decide) rfl (by decide) ?_
      refine V_aload d_fe_canFollow_98 rfl ?_
      refine V_getf d_fe_canFollow_100 fl_fe_109 im.1 rfl ?_
      refine V_iconst (v := 2) d_fe_canFollow_103 (by decide) ?_
      refine V_icmp_eq d_fe_canFollow_104 (fun c104 => ?_) (fun c104 => ?_)
      · skip
        obtain ⟨t, ht, et⟩ := ivf.to hi hj (Or.inr c104)
        refine V_aload_n d_fe_canFollow_109 rfl rfl ?_
        refine V_getf d_fe_canFollow_110 fl_fe_11 X.1 rfl ?_
        refine V_aload d_fe_canFollow_113 rfl ?_
        refine V_getf d_fe_canFollow_115 fl_fe_112 im.1 rfl ?_
        refine V_aald t d_fe_canFollow_118 l2.1 (by decide) (by decide) et (by omega) (l3 t ht).1 ?_
        refine V_iload d_fe_canFollow_119 rfl ?_
        refine V_callV (N := sh_fieldAt) d_fe_canFollow_121 ml_fe_105 mdf_sh_fieldAt wi_sh_fieldAt wz_sh_fieldAt (sp_fe_fieldAt G ivs ht (l3 t ht).2 y) (l3 t ht).2.1.1 ⟨_, rfl, rfl⟩ rfl rfl (by decide) (by decide) (Nat.le_of_ble_eq_true rfl) rfl rfl (kQ fun r121 h121 ⟨e121, z121⟩ => ?_)
        subst e121
        rcases z121 with ⟨no, rfl⟩ | ⟨j2, a2, hj2, rfl, im2, rfl⟩
        · skip
          refine V_astoreN d_fe_canFollow_124 (by decide) rfl rfl ?_
          dsimp only [List.set]
          refine V_aloadN d_fe_canFollow_126 rfl ?_
          refine V_ifnullN d_fe_canFollow_128 ?_
          refine V_iconst (v := 0) d_fe_canFollow_143 (by decide) ?_
          have m4 : mayF s i 4 (nI j) y ↔ kindF s t y 0 := mayF_4.trans ⟨fun ⟨_, j', t', q1, q2, q3, q4, q5⟩ => by rw [← nI_inj8 (by omega) (by omega) q2, et] at q4; rw [nI_inj8 (by omega) (by omega) q4]; exact q5, fun q => ⟨(kindF_iff n8 hj).mpr c104, j, t, hj, rfl, ht, et, q⟩⟩
          refine V_zreturn d_fe_canFollow_144 rfl (by first | exact Or.inl rfl | exact Or.inr rfl) ?_
          refine ⟨_, rfl, rfl, ?_⟩
          rw [b01_i m4]
          first | exact (b01_f (fun q => c136 ((kindF_iff (ivs.2.2.1 t ht).2 hj2).mp q))).symm | exact (b01_t ((kindF_iff (ivs.2.2.1 t ht).2 hj2).mpr c136)).symm | exact (b01_f (fun q => q.elim fun j' h => no j' h.1 h.2.1)).symm
        · skip
          refine V_astore d_fe_canFollow_124 (by decide) rfl rfl ?_
          dsimp only [List.set]
          refine V_aload d_fe_canFollow_126 rfl ?_
          refine V_ifnull d_fe_canFollow_128 ?_
          refine V_aload d_fe_canFollow_131 rfl ?_
          refine V_getf d_fe_canFollow_133 fl_fe_109 im2.1 rfl ?_
          refine V_if_ne d_fe_canFollow_136 (fun c136 => ?_) (fun c136 => ?_)
          · skip
            refine V_iconst (v := 0) d_fe_canFollow_143 (by decide) ?_
            have m4 : mayF s i 4 (nI j) (nI j2) ↔ kindF s t (nI j2) 0 := mayF_4.trans ⟨fun ⟨_, j', t', q1, q2, q3, q4, q5⟩ => by rw [← nI_inj8 (by omega) (by omega) q2, et] at q4; rw [nI_inj8 (by omega) (by omega) q4]; exact q5, fun q => ⟨(kindF_iff n8 hj).mpr c104, j, t, hj, rfl, ht, et, q⟩⟩
            refine V_zreturn d_fe_canFollow_144 rfl (by first | exact Or.inl rfl | exact Or.inr rfl) ?_
            refine ⟨_, rfl, rfl, ?_⟩
            rw [b01_i m4]
            first | exact (b01_f (fun q => c136 ((kindF_iff (ivs.2.2.1 t ht).2 hj2).mp q))).symm | exact (b01_t ((kindF_iff (ivs.2.2.1 t ht).2 hj2).mpr c136)).symm | exact (b01_f (fun q => q.elim fun j' h => no j' h.1 h.2.1)).symm
          · skip
            refine V_iconst (v := 1) d_fe_canFollow_139 (by decide) ?_
            refine V_goto d_fe_canFollow_140 ?_
            have m4 : mayF s i 4 (nI j) (nI j2) ↔ kindF s t (nI j2) 0 := mayF_4.trans ⟨fun ⟨_, j', t', q1, q2, q3, q4, q5⟩ => by rw [← nI_inj8 (by omega) (by omega) q2, et] at q4; rw [nI_inj8 (by omega) (by omega) q4]; exact q5, fun q => ⟨(kindF_iff n8 hj).mpr c104, j, t, hj, rfl, ht, et, q⟩⟩
            refine V_zreturn d_fe_canFollow_144 rfl (by first | exact Or.inl rfl | exact Or.inr rfl) ?_
            refine ⟨_, rfl, rfl, ?_⟩
            rw [b01_i m4]
            first | exact (b01_f (fun q => c136 ((kindF_iff (ivs.2.2.1 t ht).2 hj2).mp q))).symm | exact (b01_t ((kindF_iff (ivs.2.2.1 t ht).2 hj2).mpr c136)).symm | exact (b01_f (fun q => q.elim fun j' h => no j' h.1 h.2.1)).symm
      · skip
        refine V_iconst (v := 0) d_fe_canFollow_107 (by decide) ?_
        refine V_zreturn d_fe_canFollow_108 rfl (by first | exact Or.inl rfl | exact Or.inr rfl) ?_
        refine ⟨_, rfl, rfl, ?_⟩
        rw [b01_i mayF_4]
        exact (b01_f (fun q => c104 ((kindF_iff n8 hj).mp q.1))).symm
    refine V_tableOut (tgt := 145) d_fe_canFollow_15 (sw_out (n := 4) (fun k hk => by rcases (show k = 0 ∨ k = 1 ∨ k = 2 ∨ k = 3 ∨ k = 4 by omega) with rfl | rfl | rfl | rfl | rfl; exact w15_0; exact w15_1; exact w15_2; exact w15_3; exact w15_4)) (by decide) ?_
    refine V_iload_n d_fe_canFollow_145 rfl rfl ?_
    refine V_iconst (v := 5) d_fe_canFollow_146 (by decide) ?_
    refine V_icmp_ne d_fe_canFollow_147 (fun c147 => ?_) (fun c147 => ?_)
    · skip
      refine V_iconst (v := 0) d_fe_canFollow_154 (by decide) ?_
      refine V_zreturn d_fe_canFollow_155 rfl (by first | exact Or.inl rfl | exact Or.inr rfl) ?_
      refine ⟨_, rfl, rfl, ?_⟩
      first | exact (b01_f (mayF_o w15_0 w15_1 w15_2 w15_3 w15_4 c147)).symm | (subst c147; rw [b01_i mayF_5]; exact (b01_t (inF_i ivs hi hj)).symm)
    · skip
      refine V_iconst (v := 1) d_fe_canFollow_150 (by decide) ?_
      refine V_goto d_fe_canFollow_151 ?_
      refine V_zreturn d_fe_canFollow_155 rfl (by first | exact Or.inl rfl | exact Or.inr rfl) ?_
      refine ⟨_, rfl, rfl, ?_⟩
      first | exact (b01_f (mayF_o w15_0 w15_1 w15_2 w15_3 w15_4 c147)).symm | (subst c147; rw [b01_i mayF_5]; exact (b01_t (inF_i ivs hi hj)).symm)
theorem sp_fe_told (G : Gk) {g : Gm} {h : Hp} {s : Mem} (X : PX g h s) (S : PS g h s) (ivs : IvS s) (v f w : Int32) : Ct G fe_told [.ref (g.2 2), .int v, .int f, .int w] h (pI fun r h' => h = h' ∧ r = toldM s v f w) := by
  obtain ⟨L, l1, l2, l3⟩ := S
  have n10 := ivs.2.1
  refine Ct.ofL (M := fe_told) (lv := [some (.ref (g.2 2)), some (.int v), some (.int f), some (.int w), none]) mdf_fe_told rfl (Nat.le_of_ble_eq_true rfl) rfl ?_
  refine V_aload_n d_fe_told_0 rfl rfl ?_
  refine V_iload_n d_fe_told_1 rfl rfl ?_
  refine V_callV (N := fe_isShape) d_fe_told_2 ml_fe_68 mdf_fe_isShape wi_fe_isShape wz_fe_isShape (sp_fe_isShape G X ivs _) (by first | assumption | exact X.1 | exact hu_self _ _ _ | (simp (disch := first | assumption | (apply Ne.symm; assumption)) only [hu_self, hu_ne]; assumption)) ⟨_, rfl, rfl⟩ rfl rfl (by decide) (by decide) (Nat.le_of_ble_eq_true rfl) rfl rfl (kI fun r2 h2 ⟨e2, f2⟩ => ?_)
  subst e2 f2
  refine V_if_eq d_fe_told_5 (fun c5 => ?_) (fun c5 => ?_)
  · skip
    refine V_bipush (v := -2) d_fe_told_17 (by decide) ?_
    refine V_ireturn d_fe_told_19 rfl ?_
    refine ⟨_, rfl, rfl, ?_⟩
    rw [toldM, if_neg (fun q => b01_e c5 ((isSh_iff ivs v).mp q.1))]
  · skip
    refine V_iload_n d_fe_told_8 rfl rfl ?_
    refine V_if_lt d_fe_told_9 (fun c9 => ?_) (fun c9 => ?_)
    · skip
      refine V_bipush (v := -2) d_fe_told_17 (by decide) ?_
      refine V_ireturn d_fe_told_19 rfl ?_
      refine ⟨_, rfl, rfl, ?_⟩
      rw [toldM, if_neg (fun q => absurd q.2.1 (Int32.not_le.mpr c9))]
    · skip
      refine V_iload_n d_fe_told_12 rfl rfl ?_
      refine V_iconst (v := 3) d_fe_told_13 (by decide) ?_
      refine V_icmp_le d_fe_told_14 (fun c14 => ?_) (fun c14 => ?_)
      · skip
        have hsv := (isSh_iff ivs v).mpr (b01_ne c5)
        obtain ⟨i, hi, rfl⟩ := b01_ne c5
        have n8 := (ivs.2.2.1 i hi).2
        have hw : 0 ≤ w ∧ w ≤ 3 := ⟨Int32.not_lt.mp c9, c14⟩
        refine V_aload_n d_fe_told_20 rfl rfl ?_
        refine V_getf d_fe_told_21 fl_fe_11 X.1 rfl ?_
        refine V_iload_n d_fe_told_24 rfl rfl ?_
        refine V_aald i d_fe_told_25 l2.1 (by decide) (by decide) rfl (by omega) (l3 i hi).1 ?_
        refine V_iload_n d_fe_told_26 rfl rfl ?_
        refine V_callV (N := sh_fieldAt) d_fe_told_27 ml_fe_105 mdf_sh_fieldAt wi_sh_fieldAt wz_sh_fieldAt (sp_fe_fieldAt G ivs hi (l3 i hi).2 f) (l3 i hi).2.1.1 ⟨_, rfl, rfl⟩ rfl rfl (by decide) (by decide) (Nat.le_of_ble_eq_true rfl) rfl rfl (kQ fun r27 h27 ⟨e27, z27⟩ => ?_)
        subst e27
        rcases z27 with ⟨no, rfl⟩ | ⟨j, a, hj, rfl, im, rfl⟩
        · skip
          refine V_astoreN d_fe_told_30 (by decide) rfl rfl ?_
          dsimp only [List.set]
          refine V_aloadN d_fe_told_32 rfl ?_
          refine V_ifnonnullN d_fe_told_34 ?_
          refine V_iconst (v := -1) d_fe_told_37 (by decide) ?_
          refine V_ireturn d_fe_told_38 rfl ?_
          refine ⟨_, rfl, rfl, ?_⟩
          rw [toldM, if_pos ⟨hsv, hw⟩, cl i (by omega), if_neg (fun q => by obtain ⟨j, h1, h2⟩ := inF.ix ivs hi q; exact no j h1 h2)]
        · skip
          refine V_astore d_fe_told_30 (by decide) rfl rfl ?_
          dsimp only [List.set]
          refine V_aload d_fe_told_32 rfl ?_
          refine V_ifnonnull d_fe_told_34 ?_
          refine V_iload_n d_fe_told_39 rfl rfl ?_
          by_cases w40_0 : w = 0
          · skip
            subst w40_0
            refine V_tableIn (off := 28) (tgt := 68) d_fe_told_40 (by decide) (by decide) rfl (by decide) ?_
            refine V_aload d_fe_told_68 rfl ?_
            refine V_getf d_fe_told_70 fl_fe_109 im.1 rfl ?_
            refine V_ireturn d_fe_told_73 rfl ?_
            refine ⟨_, rfl, rfl, ?_⟩
            rw [toldM, if_pos ⟨hsv, hw⟩, cl i (by omega), cl j (by omega), if_pos (inF_i ivs hi hj)]
            rfl
          by_cases w40_1 : w = 1
          · skip
            subst w40_1
            refine V_tableIn (off := 34) (tgt := 74) d_fe_told_40 (by decide) (by decide) rfl (by decide) ?_
            refine V_aload d_fe_told_74 rfl ?_
            refine V_getf d_fe_told_76 fl_fe_112 im.1 rfl ?_
            refine V_ireturn d_fe_told_79 rfl ?_
            refine ⟨_, rfl, rfl, ?_⟩
            rw [toldM, if_pos ⟨hsv, hw⟩, cl i (by omega), cl j (by omega), if_pos (inF_i ivs hi hj)]
            rfl
          by_cases w40_2 : w = 2
          · skip
            subst w40_2
            refine V_tableIn (off := 40) (tgt := 80) d_fe_told_40 (by decide) (by decide) rfl (by decide) ?_
            refine V_aload d_fe_told_80 rfl ?_
            refine V_getf d_fe_told_82 fl_fe_115 im.1 rfl ?_
            refine V_ireturn d_fe_told_85 rfl ?_
            refine ⟨_, rfl, rfl, ?_⟩
            rw [toldM, if_pos ⟨hsv, hw⟩, cl i (by omega), cl j (by omega), if_pos (inF_i ivs hi hj)]
            rfl
          refine V_tableOut (tgt := 86) d_fe_told_40 (sw_out (n := 2) (fun k hk => by rcases (show k = 0 ∨ k = 1 ∨ k = 2 by omega) with rfl | rfl | rfl; exact w40_0; exact w40_1; exact w40_2)) (by decide) ?_
          refine V_aload d_fe_told_86 rfl ?_
          refine V_getf d_fe_told_88 fl_fe_118 im.1 rfl ?_
          refine V_ireturn d_fe_told_91 rfl ?_
          refine ⟨_, rfl, rfl, ?_⟩
          rw [toldM, if_pos ⟨hsv, hw⟩, cl i (by omega), cl j (by omega), if_pos (inF_i ivs hi hj), if_neg w40_0, if_neg w40_1, if_neg w40_2]
      · skip
        refine V_bipush (v := -2) d_fe_told_17 (by decide) ?_
        refine V_ireturn d_fe_told_19 rfl ?_
        refine ⟨_, rfl, rfl, ?_⟩
        rw [toldM, if_neg (fun q => c14 q.2.2)]
