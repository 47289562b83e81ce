/-! lead, unset, insert, remove, sort -/
theorem RC.sc {G : Gk} {g : Gm} {h h' : Hp} {s : Mem} (R : RC G g h s) (R1 : RB g h' s) (S : Stq g h nSc g h') : RC G g h' s := ⟨R1, R.2.mv S (fun r hr => by unfold nSc; omega) (ObE.rf s) ⟨fun _ _ => rfl, fun _ _ => rfl⟩⟩
theorem Nc.tr2 {G : Gk} {g : Gm} {h h1 h' : Hp} {t : Mem} (S : Stq g h nSc g h1) (N : Nc G g h1 h' t) : Nc G g h h' t := N.tr (S.mo (fun r hr => by unfold nSc; omega)) rfl
theorem sp_fe_lead (G : Gk) {g : Gm} {h : Hp} {s : Mem} (R : RC G g h s) (iv : Ivs s) (v1 v2 v : Int32) : Ct G fe_lead [.ref (g.2 2), .int v1, .int v2, .int v] h (pI fun r h' => ∀ r' t, R_lea s v1 v2 v r' t → r = r' ∧ Nc G g h h' t) := by
  obtain ⟨hm, ivs, ivo, ivf, ivv, ivt, ivw, ivh, ivx, h512⟩ := iv
  have X := R.1.1
  have n60 := ivo.2.1
  have n10 := ivs.2.1
  obtain ⟨T, t1, t2, t3⟩ := R.1.2.2.1
  refine Ct.ofL (M := fe_lead) (lv := [some (.ref (g.2 2)), some (.int v1), some (.int v2), some (.int v), none]) mdf_fe_lead rfl (Nat.le_of_ble_eq_true rfl) rfl ?_
  refine V_aload_n d_fe_lead_0 rfl rfl ?_
  refine V_iload_n d_fe_lead_1 rfl rfl ?_
  refine V_iload_n d_fe_lead_2 rfl rfl ?_
  refine V_callV (N := fe_fieldOf) d_fe_lead_3 ml_fe_152 mdf_fe_fieldOf wi_fe_fieldOf wz_fe_fieldOf (sp_fe_fieldOf G R.1 ivs ivo v1 v2) (by first | assumption | exact X.1 | exact hu_self _ _ _ | (simp (disch := first | assumption | (apply Ne.symm; assumption)) only [hu_self, hu_ne]; assumption)) ⟨_, rfl, rfl⟩ rfl rfl (by decide) (by decide) (Nat.le_of_ble_eq_true rfl) rfl rfl (kQ fun r3 h3 ⟨e3, z3⟩ => ?_)
  subst e3
  rcases z3 with ⟨no, rfl⟩ | ⟨o, f, c, ho, rfl, hf, rfl, im, rfl⟩
  · skip
    refine V_astoreN d_fe_lead_6 (by decide) rfl rfl ?_
    dsimp only [List.set]
    refine V_aloadN d_fe_lead_8 rfl ?_
    refine V_ifnullN d_fe_lead_10 ?_
    refine V_bipush (v := -2) d_fe_lead_21 (by decide) ?_
    refine V_ireturn d_fe_lead_23 rfl ?_
    refine ⟨_, rfl, fun r' t hR => ?_⟩
    obtain ⟨w1, w2⟩ := hR.f (fun q => no q.1)
    exact ⟨w1.symm, Nc.rf R w2⟩
  · skip
    refine V_astore d_fe_lead_6 (by decide) rfl rfl ?_
    dsimp only [List.set]
    refine V_aload d_fe_lead_8 rfl ?_
    refine V_ifnull d_fe_lead_10 ?_
    refine V_aload_n d_fe_lead_13 rfl rfl ?_
    refine V_iload_n d_fe_lead_14 rfl rfl ?_
    refine V_callV (N := fe_isThing) d_fe_lead_15 ml_fe_160 mdf_fe_isThing wi_fe_isThing wz_fe_isThing (sp_fe_isThing G X ivo _) (by first | assumption | exact X.1 | exact hu_self _ _ _ | (simp (disch := first | assumption | (apply Ne.symm; assumption)) only [hu_self, hu_ne]; assumption)) ⟨_, rfl, rfl⟩ rfl rfl (by decide) (by decide) (Nat.le_of_ble_eq_true rfl) rfl rfl (kI fun r15 h15 ⟨e15, f15⟩ => ?_)
    subst e15 f15
    refine V_if_ne d_fe_lead_18 (fun c18 => ?_) (fun c18 => ?_)
    · skip
      have n8 := (ivs.2.2.1 _ (ivo.2.2 o ho).2).2
      obtain ⟨u, hu1, rfl⟩ := b01_ne c18
      have hR0 : ∀ r' t, R_lea s (nI o) (nI f) (nI u) r' t → _ := fun r' t (hR : R_lea s (nI o) (nI f) (nI u) r' t) => by unfold R_lea at hR; rw [cl o (by omega), cl f (by omega), cl u (by omega)] at hR; exact hR.t ⟨hasF_i ho hf, u, hu1, rfl⟩
      obtain ⟨tt, u1, u2, _⟩ := t3 u hu1
      obtain ⟨es, hs⟩ := ivo.2.2 u hu1
      refine V_aload d_fe_lead_24 rfl ?_
      refine V_getf d_fe_lead_26 fl_fe_109 im.1 rfl ?_
      refine V_iconst (v := 1) d_fe_lead_29 (by decide) ?_
      refine V_icmp_eq d_fe_lead_30 (fun c30 => ?_) (fun c30 => ?_)
      · skip
        refine V_aload_n d_fe_lead_36 rfl rfl ?_
        refine V_iload_n d_fe_lead_37 rfl rfl ?_
        refine V_iload_n d_fe_lead_38 rfl rfl ?_
        refine V_aload d_fe_lead_39 rfl ?_
        refine V_callV (N := fe_isLocked) d_fe_lead_41 ml_fe_220 mdf_fe_isLocked wi_fe_isLocked wz_fe_isLocked (sp_fe_isLocked G R.1 ivs ivo ivf ivv ho hf (by rw [c30]; decide) im) (by first | assumption | exact X.1 | exact hu_self _ _ _ | (simp (disch := first | assumption | (apply Ne.symm; assumption)) only [hu_self, hu_ne]; assumption)) ⟨_, rfl, rfl⟩ rfl rfl (by decide) (by decide) (Nat.le_of_ble_eq_true rfl) rfl rfl (kI fun r41 h41 ⟨e41, f41⟩ => ?_)
        subst e41 f41
        refine V_if_eq d_fe_lead_44 (fun c44 => ?_) (fun c44 => ?_)
        · skip
          have hnl : ¬ lckM s o f := fun q => b01_e c44 ⟨(and2 _).mp q.1, q.2⟩
          obtain ⟨ft, hft, eft⟩ := ivf.to (ivo.2.2 o ho).2 hf (Or.inl c30)
          refine V_aload_n d_fe_lead_50 rfl rfl ?_
          refine V_aload_n d_fe_lead_51 rfl rfl ?_
          refine V_getf d_fe_lead_52 fl_fe_17 (by first | assumption | exact X.1 | exact hu_self _ _ _ | (simp (disch := first | assumption | (apply Ne.symm; assumption)) only [hu_self, hu_ne]; assumption)) rfl ?_
          refine V_iload_n d_fe_lead_55 rfl rfl ?_
          refine V_aald u d_fe_lead_56 t2.1 (by decide) (by decide) rfl (by omega) u1 ?_
          refine V_getf d_fe_lead_57 fl_fe_163 u2.1 rfl ?_
          rw [es]
          refine V_aload d_fe_lead_60 rfl ?_
          refine V_getf d_fe_lead_62 fl_fe_112 im.1 rfl ?_
          refine V_callV (N := fe_isOf) d_fe_lead_65 ml_fe_232 mdf_fe_isOf wi_fe_isOf wz_fe_isOf (sp_fe_isOf G X R.1.2.1 ivs (nI (sh s u)) _ (by rw [eft]; exact nI_m1 (by omega)) (Or.inr ⟨_, hs, rfl⟩)) (by first | assumption | exact X.1 | exact hu_self _ _ _ | (simp (disch := first | assumption | (apply Ne.symm; assumption)) only [hu_self, hu_ne]; assumption)) ⟨_, rfl, rfl⟩ rfl rfl (by decide) (by decide) (Nat.le_of_ble_eq_true rfl) rfl rfl (kI fun r65 h65 ⟨e65, f65⟩ => ?_)
          subst e65 f65
          refine V_if_ne d_fe_lead_68 (fun c68 => ?_) (fun c68 => ?_)
          · skip
            have hof : ¬ isOf s (nI (sh s u)) (s.2 4 (8 * sh s o + f)) = false := fun q => by have := b01_ne c68; rw [q] at this; cases this
            refine V_aload_n d_fe_lead_74 rfl rfl ?_
            refine V_iload_n d_fe_lead_75 rfl rfl ?_
            refine V_aload d_fe_lead_76 rfl ?_
            refine V_iload_n d_fe_lead_78 rfl rfl ?_
            refine V_callV (N := fe_wouldLoop) d_fe_lead_79 ml_fe_236 mdf_fe_wouldLoop wi_fe_wouldLoop wz_fe_wouldLoop (sp_fe_wouldLoop G R.1 hm ivs ivo ivv ho hu1 (Or.inl c30) im) (by first | assumption | exact X.1 | exact hu_self _ _ _ | (simp (disch := first | assumption | (apply Ne.symm; assumption)) only [hu_self, hu_ne]; assumption)) ⟨_, rfl, rfl⟩ rfl rfl (by decide) (by decide) (Nat.le_of_ble_eq_true rfl) rfl rfl (kI fun r79 h79 ⟨e79, R2, S2⟩ => ?_)
            subst e79
            have RC2 := R.sc R2 S2
            have X2 := R2.1
            refine V_if_eq d_fe_lead_82 (fun c82 => ?_) (fun c82 => ?_)
            · skip
              refine V_aload_n d_fe_lead_88 rfl rfl ?_
              refine V_iload_n d_fe_lead_89 rfl rfl ?_
              refine V_iload_n d_fe_lead_90 rfl rfl ?_
              refine V_iconst (v := 1) d_fe_lead_91 (by decide) ?_
              refine V.need (cr := (0 + 5) + 1) (sr := (0 + 1620) + 1) ?_ (by decide) (by decide)
              refine V_newI (M := fe_lead) 1 d_fe_lead_92 rfl (by omega) (fun q92 hq92 => ?_)
              refine V_dup d_fe_lead_94 rfl ?_
              refine V_iconst (v := 0) d_fe_lead_95 (by decide) ?_
              refine V_iload_n d_fe_lead_96 rfl rfl ?_
              refine V_iast 0 d_fe_lead_97 (hu_self _ _ _) rfl (by omega) (by rw [List.length_replicate]; omega) ?_
              rw [hu_hu, show (List.replicate 1 (Value.int 0)).set 0 (.int (nI u)) = arrL 1 (fun _ => nI u) from rfl]
              have S1 : Stq g h79 (fun _ => True) (ui g q92) (hu h79 q92 (20, arrL 1 (fun _ => nI u))) := Stq.freshI hq92 _ _
              have R1 : RC G (ui g q92) (hu h79 q92 (20, arrL 1 (fun _ => nI u))) s := RC2.st hm S1 (fun _ _ => trivial)
              refine V_callV (N := fe_take) d_fe_lead_98 ml_fe_228 mdf_fe_take wi_fe_take wz_fe_take (sp_fe_take G R1 hm ivs ivo ivw ivf ivv ivh ivx h512 ho hf (by rw [c30]; decide) ⟨fun _ => rfl, fun _ => rfl, fun _ => by decide⟩ (Im.fresh g h79 q92 _)) (X2.st S1 trivial (fun _ _ _ => rfl)).1 ⟨_, rfl, rfl⟩ rfl rfl (by decide) (by decide) (Nat.le_of_ble_eq_true rfl) rfl rfl (kI fun r98 h98 ⟨e98, p98⟩ => ?_)
              refine V_ireturn d_fe_lead_101 rfl ?_
              refine ⟨_, rfl, fun r' t hR => ?_⟩
              obtain ⟨w1, s', w2, w3⟩ := ((((hR0 r' t hR).f (fun q => q c30)).f hnl).f hof).f (b01_e c82)
              have es' : sh s' = sh s := by funext x; unfold sh; rw [w2.2 9 rfl]
              exact ⟨by rw [e98, w1], Nc.tr2 S2 (Nc.tr (S1.mo (fun _ _ => trivial)) rfl (p98 s' t w2 (SetE.tk (Or.inr (by rw [es', w2.2 3 rfl]; exact c30)) w3)))⟩
            · skip
              refine V_bipush (v := -10) d_fe_lead_85 (by decide) ?_
              refine V_ireturn d_fe_lead_87 rfl ?_
              refine ⟨_, rfl, fun r' t hR => ?_⟩
              obtain ⟨w1, w2⟩ := ((((hR0 r' t hR).f (fun q => q c30)).f hnl).f hof).t (b01_ne c82)
              exact ⟨w1.symm, Nc.sc R R2 S2 w2⟩
          · skip
            refine V_bipush (v := -9) d_fe_lead_71 (by decide) ?_
            refine V_ireturn d_fe_lead_73 rfl ?_
            refine ⟨_, rfl, fun r' t hR => ?_⟩
            obtain ⟨w1, w2⟩ := (((hR0 r' t hR).f (fun q => q c30)).f hnl).t (Bool.eq_false_iff.mpr (b01_e c68))
            exact ⟨w1.symm, Nc.rf R w2⟩
        · skip
          refine V_bipush (v := -7) d_fe_lead_47 (by decide) ?_
          refine V_ireturn d_fe_lead_49 rfl ?_
          refine ⟨_, rfl, fun r' t hR => ?_⟩
          have hl := b01_ne c44
          obtain ⟨w1, w2⟩ := ((hR0 r' t hR).f (fun q => q c30)).t ⟨(and2 _).mpr hl.1, hl.2⟩
          exact ⟨w1.symm, Nc.rf R w2⟩
      · skip
        refine V_bipush (v := -6) d_fe_lead_33 (by decide) ?_
        refine V_ireturn d_fe_lead_35 rfl ?_
        refine ⟨_, rfl, fun r' t hR => ?_⟩
        obtain ⟨w1, w2⟩ := (hR0 r' t hR).t c30
        exact ⟨w1.symm, Nc.rf R w2⟩
    · skip
      refine V_bipush (v := -2) d_fe_lead_21 (by decide) ?_
      refine V_ireturn d_fe_lead_23 rfl ?_
      refine ⟨_, rfl, fun r' t hR => ?_⟩
      obtain ⟨w1, w2⟩ := hR.f (fun q => b01_e c18 q.2)
      exact ⟨w1.symm, Nc.rf R w2⟩
theorem sp_fe_unset (G : Gk) {g : Gm} {h : Hp} {s : Mem} (R : RC G g h s) (iv : Ivs s) (v1 v2 : Int32) : Ct G fe_unset [.ref (g.2 2), .int v1, .int v2] h (pI fun r h' => ∀ r' t, R_uns s v1 v2 r' t → r = r' ∧ Nc G g h h' t) := by
  obtain ⟨hm, ivs, ivo, ivf, ivv, ivt, ivw, ivh, ivx, h512⟩ := iv
  have X := R.1.1
  have n60 := ivo.2.1
  have n10 := ivs.2.1
  refine Ct.ofL (M := fe_unset) (lv := [some (.ref (g.2 2)), some (.int v1), some (.int v2), none]) mdf_fe_unset rfl (Nat.le_of_ble_eq_true rfl) rfl ?_
  refine V_aload_n d_fe_unset_0 rfl rfl ?_
  refine V_iload_n d_fe_unset_1 rfl rfl ?_
  refine V_iload_n d_fe_unset_2 rfl rfl ?_
  refine V_callV (N := fe_fieldOf) d_fe_unset_3 ml_fe_152 mdf_fe_fieldOf wi_fe_fieldOf wz_fe_fieldOf (sp_fe_fieldOf G R.1 ivs ivo v1 v2) (by first | assumption | exact X.1 | exact hu_self _ _ _ | (simp (disch := first | assumption | (apply Ne.symm; assumption)) only [hu_self, hu_ne]; assumption)) ⟨_, rfl, rfl⟩ rfl rfl (by decide) (by decide) (Nat.le_of_ble_eq_true rfl) rfl rfl (kQ fun r3 h3 ⟨e3, z3⟩ => ?_)
  subst e3
  rcases z3 with ⟨no, rfl⟩ | ⟨o, f, c, ho, rfl, hf, rfl, im, rfl⟩
  · skip
    refine V_astore_nN d_fe_unset_6 rfl (by decide) rfl rfl ?_
    dsimp only [List.set]
    refine V_aload_nN d_fe_unset_7 rfl rfl ?_
    refine V_ifnonnullN d_fe_unset_8 ?_
    refine V_bipush (v := -2) d_fe_unset_11 (by decide) ?_
    refine V_ireturn d_fe_unset_13 rfl ?_
    refine ⟨_, rfl, fun r' t hR => ?_⟩
    obtain ⟨w1, w2⟩ := hR.f no
    exact ⟨w1.symm, Nc.rf R w2⟩
  · skip
    refine V_astore_n d_fe_unset_6 rfl (by decide) rfl rfl ?_
    dsimp only [List.set]
    refine V_aload_n d_fe_unset_7 rfl rfl ?_
    refine V_ifnonnull d_fe_unset_8 ?_
    have n8 := (ivs.2.2.1 _ (ivo.2.2 o ho).2).2
    have hR0 : ∀ r' t, R_uns s (nI o) (nI f) r' t → _ := fun r' t (hR : R_uns s (nI o) (nI f) r' t) => by unfold R_uns at hR; rw [cl o (by omega), cl f (by omega)] at hR; exact hR.t (hasF_i ho hf)
    refine V_aload_n d_fe_unset_14 rfl rfl ?_
    refine V_getf d_fe_unset_15 fl_fe_109 im.1 rfl ?_
    refine V_if_eq d_fe_unset_18 (fun c18 => ?_) (fun c18 => ?_)
    · skip
      have hk : s.2 3 (8 * sh s o + f) = 0 ∨ s.2 3 (8 * sh s o + f) = 1 := Or.inl c18
      refine V_aload_n d_fe_unset_32 rfl rfl ?_
      refine V_iconst (v := 2) d_fe_unset_33 (by decide) ?_
      refine V_callV (N := fd_has) d_fe_unset_34 ml_fe_240 mdf_fd_has wi_fd_has wz_fd_has (sp_fd_has G im.1 2) im.1 ⟨_, rfl, rfl⟩ rfl rfl (by decide) (by decide) (Nat.le_of_ble_eq_true rfl) rfl rfl (kI fun r34 h34 ⟨e34, f34⟩ => ?_)
      subst e34 f34
      refine V_if_eq d_fe_unset_37 (fun c37 => ?_) (fun c37 => ?_)
      · skip
        refine V_aload_n d_fe_unset_43 rfl rfl ?_
        refine V_iconst (v := 1) d_fe_unset_44 (by decide) ?_
        refine V_callV (N := fd_has) d_fe_unset_45 ml_fe_240 mdf_fd_has wi_fd_has wz_fd_has (sp_fd_has G im.1 1) im.1 ⟨_, rfl, rfl⟩ rfl rfl (by decide) (by decide) (Nat.le_of_ble_eq_true rfl) rfl rfl (kI fun r45 h45 ⟨e45, f45⟩ => ?_)
        subst e45 f45
        refine V_if_eq d_fe_unset_48 (fun c48 => ?_) (fun c48 => ?_)
        · skip
          refine V.need (cr := (0 + 5) + 1) (sr := (0 + 1620) + 1) ?_ (by decide) (by decide)
          refine V_aload_n d_fe_unset_54 rfl rfl ?_
          refine V_iload_n d_fe_unset_55 rfl rfl ?_
          refine V_iload_n d_fe_unset_56 rfl rfl ?_
          refine V_aload_n d_fe_unset_57 rfl rfl ?_
          refine V_callV (N := fd_firstRow) d_fe_unset_58 ml_fe_148 mdf_fd_firstRow wi_fd_firstRow wz_fd_firstRow (sp_fd_firstRow G im.1) im.1 ⟨_, rfl, rfl⟩ rfl rfl (by decide) (by decide) (Nat.le_of_ble_eq_true rfl) rfl rfl (kR fun q58 h58 ⟨e58, f58⟩ => ?_)
          rw [if_pos hk] at f58
          subst f58
          have S1 : Stq g h (fun _ => True) (ui g q58) (hu h q58 (20, arrL 1 (fun _ => MISS))) := Stq.freshI e58 _ _
          have R1 : RC G (ui g q58) (hu h q58 (20, arrL 1 (fun _ => MISS))) s := R.st hm S1 (fun _ _ => trivial)
          refine V_callV (N := fe_take) d_fe_unset_61 ml_fe_228 mdf_fe_take wi_fe_take wz_fe_take (sp_fe_take G R1 hm ivs ivo ivw ivf ivv ivh ivx h512 ho hf (by rcases hk with e | e <;> rw [e] <;> decide) ⟨fun _ => rfl, fun _ => rfl, fun _ => by decide⟩ (Im.fresh g h q58 _)) (X.st S1 trivial (fun _ _ _ => rfl)).1 ⟨_, rfl, rfl⟩ rfl rfl (by decide) (by decide) (Nat.le_of_ble_eq_true rfl) rfl rfl (kI fun r61 h61 ⟨e61, p61⟩ => ?_)
          refine V_ireturn d_fe_unset_64 rfl ?_
          refine ⟨_, rfl, fun r' t hR => ?_⟩
          obtain ⟨w1, s', w2, w3⟩ := (((hR0 r' t hR).f (fun q => q hk)).f (fun q => b01_e c37 ((and2 _).mp q))).f (fun q => b01_e c48 ((and1 _).mp q))
          have es' : sh s' = sh s := by funext x; unfold sh; rw [w2.2 9 rfl]
          exact ⟨by rw [e61, w1], Nc.tr (S1.mo (fun _ _ => trivial)) rfl (p61 s' t w2 (SetE.tk (by rw [es', w2.2 3 rfl]; exact hk) w3))⟩
        · skip
          refine V_bipush (v := -11) d_fe_unset_51 (by decide) ?_
          refine V_ireturn d_fe_unset_53 rfl ?_
          refine ⟨_, rfl, fun r' t hR => ?_⟩
          obtain ⟨w1, w2⟩ := (((hR0 r' t hR).f (fun q => q hk)).f (fun q => b01_e c37 ((and2 _).mp q))).t ((and1 _).mpr (b01_ne c48))
          exact ⟨w1.symm, Nc.rf R w2⟩
      · skip
        refine V_bipush (v := -7) d_fe_unset_40 (by decide) ?_
        refine V_ireturn d_fe_unset_42 rfl ?_
        refine ⟨_, rfl, fun r' t hR => ?_⟩
        obtain ⟨w1, w2⟩ := ((hR0 r' t hR).f (fun q => q hk)).t ((and2 _).mpr (b01_ne c37))
        exact ⟨w1.symm, Nc.rf R w2⟩
    · skip
      refine V_aload_n d_fe_unset_21 rfl rfl ?_
      refine V_getf d_fe_unset_22 fl_fe_109 im.1 rfl ?_
      refine V_iconst (v := 1) d_fe_unset_25 (by decide) ?_
      refine V_icmp_eq d_fe_unset_26 (fun c26 => ?_) (fun c26 => ?_)
      · skip
        have hk : s.2 3 (8 * sh s o + f) = 0 ∨ s.2 3 (8 * sh s o + f) = 1 := Or.inr c26
        refine V_aload_n d_fe_unset_32 rfl rfl ?_
        refine V_iconst (v := 2) d_fe_unset_33 (by decide) ?_
        refine V_callV (N := fd_has) d_fe_unset_34 ml_fe_240 mdf_fd_has wi_fd_has wz_fd_has (sp_fd_has G im.1 2) im.1 ⟨_, rfl, rfl⟩ rfl rfl (by decide) (by decide) (Nat.le_of_ble_eq_true rfl) rfl rfl (kI fun r34 h34 ⟨e34, f34⟩ => ?_)
        subst e34 f34
        refine V_if_eq d_fe_unset_37 (fun c37 => ?_) (fun c37 => ?_)
        · skip
          refine V_aload_n d_fe_unset_43 rfl rfl ?_
          refine V_iconst (v := 1) d_fe_unset_44 (by decide) ?_
          refine V_callV (N := fd_has) d_fe_unset_45 ml_fe_240 mdf_fd_has wi_fd_has wz_fd_has (sp_fd_has G im.1 1) im.1 ⟨_, rfl, rfl⟩ rfl rfl (by decide) (by decide) (Nat.le_of_ble_eq_true rfl) rfl rfl (kI fun r45 h45 ⟨e45, f45⟩ => ?_)
          subst e45 f45
          refine V_if_eq d_fe_unset_48 (fun c48 => ?_) (fun c48 => ?_)
          · skip
            refine V.need (cr := (0 + 5) + 1) (sr := (0 + 1620) + 1) ?_ (by decide) (by decide)
            refine V_aload_n d_fe_unset_54 rfl rfl ?_
            refine V_iload_n d_fe_unset_55 rfl rfl ?_
            refine V_iload_n d_fe_unset_56 rfl rfl ?_
            refine V_aload_n d_fe_unset_57 rfl rfl ?_
            refine V_callV (N := fd_firstRow) d_fe_unset_58 ml_fe_148 mdf_fd_firstRow wi_fd_firstRow wz_fd_firstRow (sp_fd_firstRow G im.1) im.1 ⟨_, rfl, rfl⟩ rfl rfl (by decide) (by decide) (Nat.le_of_ble_eq_true rfl) rfl rfl (kR fun q58 h58 ⟨e58, f58⟩ => ?_)
            rw [if_pos hk] at f58
            subst f58
            have S1 : Stq g h (fun _ => True) (ui g q58) (hu h q58 (20, arrL 1 (fun _ => MISS))) := Stq.freshI e58 _ _
            have R1 : RC G (ui g q58) (hu h q58 (20, arrL 1 (fun _ => MISS))) s := R.st hm S1 (fun _ _ => trivial)
            refine V_callV (N := fe_take) d_fe_unset_61 ml_fe_228 mdf_fe_take wi_fe_take wz_fe_take (sp_fe_take G R1 hm ivs ivo ivw ivf ivv ivh ivx h512 ho hf (by rcases hk with e | e <;> rw [e] <;> decide) ⟨fun _ => rfl, fun _ => rfl, fun _ => by decide⟩ (Im.fresh g h q58 _)) (X.st S1 trivial (fun _ _ _ => rfl)).1 ⟨_, rfl, rfl⟩ rfl rfl (by decide) (by decide) (Nat.le_of_ble_eq_true rfl) rfl rfl (kI fun r61 h61 ⟨e61, p61⟩ => ?_)
            refine V_ireturn d_fe_unset_64 rfl ?_
            refine ⟨_, rfl, fun r' t hR => ?_⟩
            obtain ⟨w1, s', w2, w3⟩ := (((hR0 r' t hR).f (fun q => q hk)).f (fun q => b01_e c37 ((and2 _).mp q))).f (fun q => b01_e c48 ((and1 _).mp q))
            have es' : sh s' = sh s := by funext x; unfold sh; rw [w2.2 9 rfl]
            exact ⟨by rw [e61, w1], Nc.tr (S1.mo (fun _ _ => trivial)) rfl (p61 s' t w2 (SetE.tk (by rw [es', w2.2 3 rfl]; exact hk) w3))⟩
          · skip
            refine V_bipush (v := -11) d_fe_unset_51 (by decide) ?_
            refine V_ireturn d_fe_unset_53 rfl ?_
            refine ⟨_, rfl, fun r' t hR => ?_⟩
            obtain ⟨w1, w2⟩ := (((hR0 r' t hR).f (fun q => q hk)).f (fun q => b01_e c37 ((and2 _).mp q))).t ((and1 _).mpr (b01_ne c48))
            exact ⟨w1.symm, Nc.rf R w2⟩
        · skip
          refine V_bipush (v := -7) d_fe_unset_40 (by decide) ?_
          refine V_ireturn d_fe_unset_42 rfl ?_
          refine ⟨_, rfl, fun r' t hR => ?_⟩
          obtain ⟨w1, w2⟩ := ((hR0 r' t hR).f (fun q => q hk)).t ((and2 _).mpr (b01_ne c37))
          exact ⟨w1.symm, Nc.rf R w2⟩
      · skip
        refine V_bipush (v := -6) d_fe_unset_29 (by decide) ?_
        refine V_ireturn d_fe_unset_31 rfl ?_
        refine ⟨_, rfl, fun r' t hR => ?_⟩
        obtain ⟨w1, w2⟩ := (hR0 r' t hR).t (fun q => q.elim c18 c26)
        exact ⟨w1.symm, Nc.rf R w2⟩
/-- a list's row, as the class keeps it -/
theorem row2 {s : Mem} (ivv : IvV s) {o f : Nat} (ho : o < nO s) (hf : f < nf s (sh s o)) (hk : s.2 3 (8 * sh s o + f) = 2) : ∃ len, len ≤ 6 ∧ s.2 10 (8 * o + f) = nI len ∧ lnOf s o f = len ∧ rowN s o f = len ∧ rowF s o f = (fun i => s.2 11 (6 * (8 * o + f) + i)) ∧ ∀ i, i < len → ∃ t, t < nO s ∧ s.2 11 (6 * (8 * o + f) + i) = nI t := by
  obtain ⟨len, q1, q2, q3⟩ := (ivv o ho f hf).2 hk
  refine ⟨len, q1, q2, by show (s.2 10 (8 * o + f)).toNatClampNeg = len; rw [q2]; exact cl _ (by omega), by unfold rowN rwN; rw [hk, if_pos rfl, q2, cl len (by omega)], by unfold rowF; funext z; unfold rwF; rw [hk, if_pos rfl], q3⟩
theorem sp_fe_remove (G : Gk) {g : Gm} {h : Hp} {s : Mem} (R : RC G g h s) (iv : Ivs s) (v1 v2 v : Int32) : Ct G fe_remove [.ref (g.2 2), .int v1, .int v2, .int v] h (pI fun r h' => ∀ r' t, R_rem s v1 v2 v r' t → r = r' ∧ Nc G g h h' t) := by
  obtain ⟨hm, ivs, ivo, ivf, ivv, ivt, ivw, ivh, ivx, h512⟩ := iv
  have X := R.1.1
  have n60 := ivo.2.1
  have n10 := ivs.2.1
  obtain ⟨T, t1, t2, t3⟩ := R.1.2.2.1
  refine Ct.ofL (M := fe_remove) (lv := [some (.ref (g.2 2)), some (.int v1), some (.int v2), some (.int v), none, none]) mdf_fe_remove rfl (Nat.le_of_ble_eq_true rfl) rfl ?_
  refine V_aload_n d_fe_remove_0 rfl rfl ?_
  refine V_iload_n d_fe_remove_1 rfl rfl ?_
  refine V_iload_n d_fe_remove_2 rfl rfl ?_
  refine V_callV (N := fe_fieldOf) d_fe_remove_3 ml_fe_152 mdf_fe_fieldOf wi_fe_fieldOf wz_fe_fieldOf (sp_fe_fieldOf G R.1 ivs ivo v1 v2) (by first | assumption | exact X.1 | exact hu_self _ _ _ | (simp (disch := first | assumption | (apply Ne.symm; assumption)) only [hu_self, hu_ne]; assumption)) ⟨_, rfl, rfl⟩ rfl rfl (by decide) (by decide) (Nat.le_of_ble_eq_true rfl) rfl rfl (kQ fun r3 h3 ⟨e3, z3⟩ => ?_)
  subst e3
  rcases z3 with ⟨no, rfl⟩ | ⟨o, f, c, ho, rfl, hf, rfl, im, rfl⟩
  · skip
    refine V_astoreN d_fe_remove_6 (by decide) rfl rfl ?_
    dsimp only [List.set]
    refine V_aloadN d_fe_remove_8 rfl ?_
    refine V_ifnonnullN d_fe_remove_10 ?_
    refine V_bipush (v := -2) d_fe_remove_13 (by decide) ?_
    refine V_ireturn d_fe_remove_15 rfl ?_
    refine ⟨_, rfl, fun r' t hR => ?_⟩
    obtain ⟨w1, w2⟩ := hR.f no
    exact ⟨w1.symm, Nc.rf R w2⟩
  · skip
    refine V_astore d_fe_remove_6 (by decide) rfl rfl ?_
    dsimp only [List.set]
    refine V_aload d_fe_remove_8 rfl ?_
    refine V_ifnonnull d_fe_remove_10 ?_
    have n8 := (ivs.2.2.1 _ (ivo.2.2 o ho).2).2
    have hR0 : ∀ r' t, R_rem s (nI o) (nI f) v r' t → _ := fun r' t (hR : R_rem s (nI o) (nI f) v r' t) => by unfold R_rem at hR; rw [cl o (by omega), cl f (by omega)] at hR; exact hR.t (hasF_i ho hf)
    refine V_aload d_fe_remove_16 rfl ?_
    refine V_getf d_fe_remove_18 fl_fe_109 im.1 rfl ?_
    refine V_iconst (v := 2) d_fe_remove_21 (by decide) ?_
    refine V_icmp_eq d_fe_remove_22 (fun c22 => ?_) (fun c22 => ?_)
    · skip
      obtain ⟨tt, u1, u2, W, x1, x2, x3⟩ := t3 o ho
      obtain ⟨ar, y1, y2⟩ := x3 f hf
      obtain ⟨len, l6, l1, l2, l3, l4, l5⟩ := row2 ivv ho hf c22
      rw [l3, l4] at y2
      refine V_aload_n d_fe_remove_28 rfl rfl ?_
      refine V_getf d_fe_remove_29 fl_fe_17 (by first | assumption | exact X.1 | exact hu_self _ _ _ | (simp (disch := first | assumption | (apply Ne.symm; assumption)) only [hu_self, hu_ne]; assumption)) rfl ?_
      refine V_iload_n d_fe_remove_32 rfl rfl ?_
      refine V_aald o d_fe_remove_33 t2.1 (by decide) (by decide) rfl (by omega) u1 ?_
      refine V_getf d_fe_remove_34 fl_fe_140 u2.1 rfl ?_
      refine V_iload_n d_fe_remove_37 rfl rfl ?_
      refine V_aald f d_fe_remove_38 x2.1 (by decide) (by decide) rfl (by omega) y1 ?_
      refine V_astore d_fe_remove_39 (by decide) rfl rfl ?_
      dsimp only [List.set]
      refine V_iload_n d_fe_remove_41 rfl rfl ?_
      refine V_if_lt d_fe_remove_42 (fun c42 => ?_) (fun c42 => ?_)
      · skip
        refine V_bipush (v := -8) d_fe_remove_52 (by decide) ?_
        refine V_ireturn d_fe_remove_54 rfl ?_
        refine ⟨_, rfl, fun r' t hR => ?_⟩
        obtain ⟨w1, w2⟩ := ((hR0 r' t hR).f (fun q => q c22)).t (fun i hi e => by rw [l2] at hi; subst e; exact nI_pos (by omega) c42)
        exact ⟨w1.symm, Nc.rf R w2⟩
      · skip
        refine V_iload_n d_fe_remove_45 rfl rfl ?_
        refine V_aload d_fe_remove_46 rfl ?_
        refine V_alen d_fe_remove_48 y2.1 (by decide) (by decide) ?_
        rw [arrL_len]
        refine V_icmp_lt d_fe_remove_49 (fun c49 => ?_) (fun c49 => ?_)
        · skip
          obtain ⟨i, hi, rfl⟩ := ix_lt c42 (Int32.not_le.mpr c49) (by omega)
          refine V.need (cr := (0 + 5) + 1) (sr := (0 + 1620) + 5) ?_ (by decide) (by decide)
          refine V_aload_n d_fe_remove_55 rfl rfl ?_
          refine V_iload_n d_fe_remove_56 rfl rfl ?_
          refine V_iload_n d_fe_remove_57 rfl rfl ?_
          refine V_aload d_fe_remove_58 rfl ?_
          refine V_iload_n d_fe_remove_60 rfl rfl ?_
          refine V_callS (N := fe_withoutPlace) d_fe_remove_61 ml_fe_247 mdf_fe_withoutPlace ws_fe_withoutPlace (sp_fe_withoutPlace G y2.1 l6 hi) rfl rfl (by decide) (by decide) (Nat.le_of_ble_eq_true rfl) rfl rfl (kR fun q61 h61 ⟨e61, f61⟩ => ?_)
          subst f61
          have S1 : Stq g h (fun _ => True) (ui g q61) (hu h q61 (20, arrL (len - 1) (remP (fun i => s.2 11 (6 * (8 * o + f) + i)) i))) := Stq.freshI e61 _ _
          have R1 : RC G (ui g q61) (hu h q61 (20, arrL (len - 1) (remP (fun i => s.2 11 (6 * (8 * o + f) + i)) i))) s := R.st hm S1 (fun _ _ => trivial)
          refine V_callV (N := fe_take) d_fe_remove_64 ml_fe_228 mdf_fe_take wi_fe_take wz_fe_take (sp_fe_take G R1 hm ivs ivo ivw ivf ivv ivh ivx h512 ho hf (by rw [c22]; decide) ⟨fun e => by rw [c22] at e; exact absurd e (by decide), fun e => by rw [c22] at e; exact absurd e (by decide), fun _ => by omega⟩ (Im.fresh g h q61 _)) (X.st S1 trivial (fun _ _ _ => rfl)).1 ⟨_, rfl, rfl⟩ rfl rfl (by decide) (by decide) (Nat.le_of_ble_eq_true rfl) rfl rfl (kI fun r64 h64 ⟨e64, p64⟩ => ?_)
          refine V_ireturn d_fe_remove_67 rfl ?_
          refine ⟨_, rfl, fun r' t hR => ?_⟩
          obtain ⟨w1, s', w2, w3⟩ := ((hR0 r' t hR).f (fun q => q c22)).f (fun q => q i (by rw [l2]; exact hi) rfl)
          rw [l2, cl i (by omega)] at w3
          have es' : sh s' = sh s := by funext x; unfold sh; rw [w2.2 9 rfl]
          have tk := RemE.tk (by rw [es', w2.2 3 rfl]; exact c22) hi w3
          rw [w2.2 11 rfl] at tk
          exact ⟨by rw [e64, w1], Nc.tr (S1.mo (fun _ _ => trivial)) rfl (p64 s' t w2 tk)⟩
        · skip
          refine V_bipush (v := -8) d_fe_remove_52 (by decide) ?_
          refine V_ireturn d_fe_remove_54 rfl ?_
          refine ⟨_, rfl, fun r' t hR => ?_⟩
          obtain ⟨w1, w2⟩ := ((hR0 r' t hR).f (fun q => q c22)).t (fun i hi e => by rw [l2] at hi; subst e; exact c49 (nI_lt hi (by omega)))
          exact ⟨w1.symm, Nc.rf R w2⟩
    · skip
      refine V_bipush (v := -6) d_fe_remove_25 (by decide) ?_
      refine V_ireturn d_fe_remove_27 rfl ?_
      refine ⟨_, rfl, fun r' t hR => ?_⟩
      obtain ⟨w1, w2⟩ := (hR0 r' t hR).t c22
      exact ⟨w1.symm, Nc.rf R w2⟩
theorem sp_fe_insert (G : Gk) {g : Gm} {h : Hp} {s : Mem} (R : RC G g h s) (iv : Ivs s) (v1 v2 v w : Int32) : Ct G fe_insert [.ref (g.2 2), .int v1, .int v2, .int v, .int w] h (pI fun r h' => ∀ r' t, R_ins s v1 v2 v w r' t → r = r' ∧ Nc G g h h' t) := by
  obtain ⟨hm, ivs, ivo, ivf, ivv, ivt, ivw, ivh, ivx, h512⟩ := iv
  have X := R.1.1
  have n60 := ivo.2.1
  have n10 := ivs.2.1
  obtain ⟨T, t1, t2, t3⟩ := R.1.2.2.1
  refine Ct.ofL (M := fe_insert) (lv := [some (.ref (g.2 2)), some (.int v1), some (.int v2), some (.int v), some (.int w), none, none]) mdf_fe_insert rfl (Nat.le_of_ble_eq_true rfl) rfl ?_
  refine V_aload_n d_fe_insert_0 rfl rfl ?_
  refine V_iload_n d_fe_insert_1 rfl rfl ?_
  refine V_iload_n d_fe_insert_2 rfl rfl ?_
  refine V_callV (N := fe_fieldOf) d_fe_insert_3 ml_fe_152 mdf_fe_fieldOf wi_fe_fieldOf wz_fe_fieldOf (sp_fe_fieldOf G R.1 ivs ivo v1 v2) (by first | assumption | exact X.1 | exact hu_self _ _ _ | (simp (disch := first | assumption | (apply Ne.symm; assumption)) only [hu_self, hu_ne]; assumption)) ⟨_, rfl, rfl⟩ rfl rfl (by decide) (by decide) (Nat.le_of_ble_eq_true rfl) rfl rfl (kQ fun r3 h3 ⟨e3, z3⟩ => ?_)
  subst e3
  rcases z3 with ⟨no, rfl⟩ | ⟨o, f, c, ho, rfl, hf, rfl, im, rfl⟩
  · skip
    refine V_astoreN d_fe_insert_6 (by decide) rfl rfl ?_
    dsimp only [List.set]
    refine V_aloadN d_fe_insert_8 rfl ?_
    refine V_ifnullN d_fe_insert_10 ?_
    refine V_bipush (v := -2) d_fe_insert_22 (by decide) ?_
    refine V_ireturn d_fe_insert_24 rfl ?_
    refine ⟨_, rfl, fun r' t hR => ?_⟩
    obtain ⟨w1, w2⟩ := hR.f (fun q => no q.1)
    exact ⟨w1.symm, Nc.rf R w2⟩
  · skip
    refine V_astore d_fe_insert_6 (by decide) rfl rfl ?_
    dsimp only [List.set]
    refine V_aload d_fe_insert_8 rfl ?_
    refine V_ifnull d_fe_insert_10 ?_
    refine V_aload_n d_fe_insert_13 rfl rfl ?_
    refine V_iload d_fe_insert_14 rfl ?_
    refine V_callV (N := fe_isThing) d_fe_insert_16 ml_fe_160 mdf_fe_isThing wi_fe_isThing wz_fe_isThing (sp_fe_isThing G X ivo _) (by first | assumption | exact X.1 | exact hu_self _ _ _ | (simp (disch := first | assumption | (apply Ne.symm; assumption)) only [hu_self, hu_ne]; assumption)) ⟨_, rfl, rfl⟩ rfl rfl (by decide) (by decide) (Nat.le_of_ble_eq_true rfl) rfl rfl (kI fun r16 h16 ⟨e16, f16⟩ => ?_)
    subst e16 f16
    refine V_if_ne d_fe_insert_19 (fun c19 => ?_) (fun c19 => ?_)
    · skip
      have n8 := (ivs.2.2.1 _ (ivo.2.2 o ho).2).2
      obtain ⟨u, hu1, rfl⟩ := b01_ne c19
      have hR0 : ∀ r' t, R_ins s (nI o) (nI f) v (nI u) r' t → _ := fun r' t (hR : R_ins s (nI o) (nI f) v (nI u) r' t) => by unfold R_ins at hR; rw [cl o (by omega), cl f (by omega), cl u (by omega)] at hR; exact hR.t ⟨hasF_i ho hf, u, hu1, rfl⟩
      obtain ⟨tu, uu1, uu2, _⟩ := t3 u hu1
      obtain ⟨es, hs⟩ := ivo.2.2 u hu1
      refine V_aload d_fe_insert_25 rfl ?_
      refine V_getf d_fe_insert_27 fl_fe_109 im.1 rfl ?_
      refine V_iconst (v := 2) d_fe_insert_30 (by decide) ?_
      refine V_icmp_eq d_fe_insert_31 (fun c31 => ?_) (fun c31 => ?_)
      · skip
        obtain ⟨tt, u1, u2, W, x1, x2, x3⟩ := t3 o ho
        obtain ⟨ar, y1, y2⟩ := x3 f hf
        obtain ⟨len, l6, l1, l2, l3, l4, l5⟩ := row2 ivv ho hf c31
        rw [l3, l4] at y2
        obtain ⟨ft, hft, eft⟩ := ivf.to (ivo.2.2 o ho).2 hf (Or.inr c31)
        refine V_aload_n d_fe_insert_37 rfl rfl ?_
        refine V_getf d_fe_insert_38 fl_fe_17 (by first | assumption | exact X.1 | exact hu_self _ _ _ | (simp (disch := first | assumption | (apply Ne.symm; assumption)) only [hu_self, hu_ne]; assumption)) rfl ?_
        refine V_iload_n d_fe_insert_41 rfl rfl ?_
        refine V_aald o d_fe_insert_42 t2.1 (by decide) (by decide) rfl (by omega) u1 ?_
        refine V_getf d_fe_insert_43 fl_fe_140 u2.1 rfl ?_
        refine V_iload_n d_fe_insert_46 rfl rfl ?_
        refine V_aald f d_fe_insert_47 x2.1 (by decide) (by decide) rfl (by omega) y1 ?_
        refine V_astore d_fe_insert_48 (by decide) rfl rfl ?_
        dsimp only [List.set]
        refine V_iload_n d_fe_insert_50 rfl rfl ?_
        refine V_if_lt d_fe_insert_51 (fun c51 => ?_) (fun c51 => ?_)
        · skip
          refine V_bipush (v := -8) d_fe_insert_69 (by decide) ?_
          refine V_ireturn d_fe_insert_71 rfl ?_
          refine ⟨_, rfl, fun r' t hR => ?_⟩
          obtain ⟨w1, w2⟩ := ((hR0 r' t hR).f (fun q => q c31)).t (Or.inr (fun i hi e => by rw [l2] at hi; subst e; exact nI_pos (by omega) c51))
          exact ⟨w1.symm, Nc.rf R w2⟩
        · skip
          refine V_iload_n d_fe_insert_54 rfl rfl ?_
          refine V_aload d_fe_insert_55 rfl ?_
          refine V_alen d_fe_insert_57 y2.1 (by decide) (by decide) ?_
          rw [arrL_len]
          refine V_icmp_gt d_fe_insert_58 (fun c58 => ?_) (fun c58 => ?_)
          · skip
            refine V_bipush (v := -8) d_fe_insert_69 (by decide) ?_
            refine V_ireturn d_fe_insert_71 rfl ?_
            refine ⟨_, rfl, fun r' t hR => ?_⟩
            obtain ⟨w1, w2⟩ := ((hR0 r' t hR).f (fun q => q c31)).t (Or.inr (fun i hi e => by rw [l2] at hi; subst e; exact Int32.lt_irrefl (Int32.lt_of_lt_of_le c58 (nI_le hi (by omega)))))
            exact ⟨w1.symm, Nc.rf R w2⟩
          · skip
            refine V_aload d_fe_insert_61 rfl ?_
            refine V_alen d_fe_insert_63 y2.1 (by decide) (by decide) ?_
            rw [arrL_len]
            refine V_bipush (v := 6) d_fe_insert_64 (by decide) ?_
            refine V_icmp_lt d_fe_insert_66 (fun c66 => ?_) (fun c66 => ?_)
            · skip
              obtain ⟨i, hi, rfl⟩ := ixle (n := len) (by omega) ⟨Int32.not_lt.mp c51, Int32.not_lt.mp c58⟩
              have hl6 : len < 6 := by rcases Nat.lt_or_ge len 6 with z | z; exact z; exact absurd c66 (by rw [show len = 6 by omega]; decide)
              have hrg : ¬ (lnOf s o f = 6 ∨ ∀ j, j ≤ lnOf s o f → nI i ≠ nI j) := fun q => q.elim (fun z => by rw [l2] at z; omega) (fun z => z i (by rw [l2]; exact hi) rfl)
              refine V_aload_n d_fe_insert_72 rfl rfl ?_
              refine V_aload_n d_fe_insert_73 rfl rfl ?_
              refine V_getf d_fe_insert_74 fl_fe_17 (by first | assumption | exact X.1 | exact hu_self _ _ _ | (simp (disch := first | assumption | (apply Ne.symm; assumption)) only [hu_self, hu_ne]; assumption)) rfl ?_
              refine V_iload d_fe_insert_77 rfl ?_
              refine V_aald u d_fe_insert_79 t2.1 (by decide) (by decide) rfl (by omega) uu1 ?_
              refine V_getf d_fe_insert_80 fl_fe_163 uu2.1 rfl ?_
              rw [es]
              refine V_aload d_fe_insert_83 rfl ?_
              refine V_getf d_fe_insert_85 fl_fe_112 im.1 rfl ?_
              refine V_callV (N := fe_isOf) d_fe_insert_88 ml_fe_232 mdf_fe_isOf wi_fe_isOf wz_fe_isOf (sp_fe_isOf G X R.1.2.1 ivs (nI (sh s u)) _ (by rw [eft]; exact nI_m1 (by omega)) (Or.inr ⟨_, hs, rfl⟩)) (by first | assumption | exact X.1 | exact hu_self _ _ _ | (simp (disch := first | assumption | (apply Ne.symm; assumption)) only [hu_self, hu_ne]; assumption)) ⟨_, rfl, rfl⟩ rfl rfl (by decide) (by decide) (Nat.le_of_ble_eq_true rfl) rfl rfl (kI fun r88 h88 ⟨e88, f88⟩ => ?_)
              subst e88 f88
              refine V_if_ne d_fe_insert_91 (fun c91 => ?_) (fun c91 => ?_)
              · skip
                have hof : ¬ isOf s (nI (sh s u)) (s.2 4 (8 * sh s o + f)) = false := fun q => by have := b01_ne c91; rw [q] at this; cases this
                refine V_aload_n d_fe_insert_97 rfl rfl ?_
                refine V_iload_n d_fe_insert_98 rfl rfl ?_
                refine V_aload d_fe_insert_99 rfl ?_
                refine V_iload d_fe_insert_101 rfl ?_
                refine V_callV (N := fe_wouldLoop) d_fe_insert_103 ml_fe_236 mdf_fe_wouldLoop wi_fe_wouldLoop wz_fe_wouldLoop (sp_fe_wouldLoop G R.1 hm ivs ivo ivv ho hu1 (Or.inr c31) im) (by first | assumption | exact X.1 | exact hu_self _ _ _ | (simp (disch := first | assumption | (apply Ne.symm; assumption)) only [hu_self, hu_ne]; assumption)) ⟨_, rfl, rfl⟩ rfl rfl (by decide) (by decide) (Nat.le_of_ble_eq_true rfl) rfl rfl (kI fun r103 h103 ⟨e103, R2, S2⟩ => ?_)
                subst e103
                have RC2 := R.sc R2 S2
                have X2 := R2.1
                refine V_if_eq d_fe_insert_106 (fun c106 => ?_) (fun c106 => ?_)
                · skip
                  refine V.need (cr := (0 + 5) + 1) (sr := (0 + 1620) + 6) ?_ (by decide) (by decide)
                  refine V_aload_n d_fe_insert_112 rfl rfl ?_
                  refine V_iload_n d_fe_insert_113 rfl rfl ?_
                  refine V_iload_n d_fe_insert_114 rfl rfl ?_
                  refine V_aload d_fe_insert_115 rfl ?_
                  refine V_iload_n d_fe_insert_117 rfl rfl ?_
                  refine V_iload d_fe_insert_118 rfl ?_
                  refine V_callS (N := fe_withPlace) d_fe_insert_120 ml_fe_243 mdf_fe_withPlace ws_fe_withPlace (sp_fe_withPlace G (y2.st S2 (Or.inl (by omega))).1 hl6 hi (nI u)) rfl rfl (by decide) (by decide) (Nat.le_of_ble_eq_true rfl) rfl rfl (kR fun q120 h120 ⟨e120, f120⟩ => ?_)
                  subst f120
                  have S1 : Stq g h103 (fun _ => True) (ui g q120) (hu h103 q120 (20, arrL (len + 1) (insP (fun i => s.2 11 (6 * (8 * o + f) + i)) i (nI u)))) := Stq.freshI e120 _ _
                  have R1 : RC G (ui g q120) (hu h103 q120 (20, arrL (len + 1) (insP (fun i => s.2 11 (6 * (8 * o + f) + i)) i (nI u)))) s := RC2.st hm S1 (fun _ _ => trivial)
                  refine V_callV (N := fe_take) d_fe_insert_123 ml_fe_228 mdf_fe_take wi_fe_take wz_fe_take (sp_fe_take G R1 hm ivs ivo ivw ivf ivv ivh ivx h512 ho hf (by rw [c31]; decide) ⟨fun e => by rw [c31] at e; exact absurd e (by decide), fun e => by rw [c31] at e; exact absurd e (by decide), fun _ => by omega⟩ (Im.fresh g h103 q120 _)) (X2.st S1 trivial (fun _ _ _ => rfl)).1 ⟨_, rfl, rfl⟩ rfl rfl (by decide) (by decide) (Nat.le_of_ble_eq_true rfl) rfl rfl (kI fun r123 h123 ⟨e123, p123⟩ => ?_)
                  refine V_ireturn d_fe_insert_126 rfl ?_
                  refine ⟨_, rfl, fun r' t hR => ?_⟩
                  obtain ⟨w1, s', w2, w3⟩ := ((((hR0 r' t hR).f (fun q => q c31)).f hrg).f hof).f (b01_e c106)
                  rw [l2, cl i (by omega)] at w3
                  have es' : sh s' = sh s := by funext x; unfold sh; rw [w2.2 9 rfl]
                  have tk := InsE.tk (by rw [es', w2.2 3 rfl]; exact c31) hi w3
                  rw [w2.2 11 rfl] at tk
                  exact ⟨by rw [e123, w1], Nc.tr2 S2 (Nc.tr (S1.mo (fun _ _ => trivial)) rfl (p123 s' t w2 tk))⟩
                · skip
                  refine V_bipush (v := -10) d_fe_insert_109 (by decide) ?_
                  refine V_ireturn d_fe_insert_111 rfl ?_
                  refine ⟨_, rfl, fun r' t hR => ?_⟩
                  obtain ⟨w1, w2⟩ := ((((hR0 r' t hR).f (fun q => q c31)).f hrg).f hof).t (b01_ne c106)
                  exact ⟨w1.symm, Nc.sc R R2 S2 w2⟩
              · skip
                refine V_bipush (v := -9) d_fe_insert_94 (by decide) ?_
                refine V_ireturn d_fe_insert_96 rfl ?_
                refine ⟨_, rfl, fun r' t hR => ?_⟩
                obtain ⟨w1, w2⟩ := (((hR0 r' t hR).f (fun q => q c31)).f hrg).t (Bool.eq_false_iff.mpr (b01_e c91))
                exact ⟨w1.symm, Nc.rf R w2⟩
            · skip
              refine V_bipush (v := -8) d_fe_insert_69 (by decide) ?_
              refine V_ireturn d_fe_insert_71 rfl ?_
              refine ⟨_, rfl, fun r' t hR => ?_⟩
              obtain ⟨w1, w2⟩ := ((hR0 r' t hR).f (fun q => q c31)).t (Or.inl (by rw [l2]; rcases Nat.lt_or_ge len 6 with z | z; exact absurd (nI_lt z (by omega)) c66; omega))
              exact ⟨w1.symm, Nc.rf R w2⟩
      · skip
        refine V_bipush (v := -6) d_fe_insert_34 (by decide) ?_
        refine V_ireturn d_fe_insert_36 rfl ?_
        refine ⟨_, rfl, fun r' t hR => ?_⟩
        obtain ⟨w1, w2⟩ := (hR0 r' t hR).t c31
        exact ⟨w1.symm, Nc.rf R w2⟩
    · skip
      refine V_bipush (v := -2) d_fe_insert_22 (by decide) ?_
      refine V_ireturn d_fe_insert_24 rfl ?_
      refine ⟨_, rfl, fun r' t hR => ?_⟩
      obtain ⟨w1, w2⟩ := hR.f (fun q => b01_e c19 q.2)
      exact ⟨w1.symm, Nc.rf R w2⟩
