/-! lead, unset of the reference -/
def scF (q : Nat) : Bool := q == 15 || q == 37 || q == 40 || q == 45
def scA (q : Nat) : Bool := q == 12 || q == 13 || q == 14 || q == 32 || q == 38 || q == 39 || q == 41 || q == 42 || q == 43 || q == 44
/-- alike but for what is only scratch -/
def Sc (s t : Mem) : Prop := (∀ q, scF q = false → t.1 q = s.1 q) ∧ ∀ q, scA q = false → t.2 q = s.2 q
theorem Sc.rf (s : Mem) : Sc s s := ⟨fun _ _ => rfl, fun _ _ => rfl⟩
theorem Sc.trans {s t u : Mem} (a : Sc s t) (b : Sc t u) : Sc s u := ⟨fun q h => (b.1 q h).trans (a.1 q h), fun q h => (b.2 q h).trans (a.2 q h)⟩
theorem Sc.sB (s : Mem) (b : Bf) : Sc s (sB s b) := by
  refine ⟨fun q h => sB_1 s b (fun e => ?_), fun q h => sB_2 s b (fun e => ?_) (fun e => ?_)⟩ <;> (subst e; simp [scF, scA] at h)
theorem Sc.sK (s : Mem) (K : Nat → Int32) : Sc s (sK s K) := by
  refine ⟨fun q h => rfl, fun q h => ?_⟩
  show va_up s.2 12 K q = s.2 q
  exact va_up_ne _ _ (fun e => by subst e; simp [scA] at h)
theorem IvS.sc {s t : Mem} (iv : IvS s) (h : Sc s t) : IvS t := iv.of (h.1 0 rfl) (h.2 1 rfl) (h.2 2 rfl)
theorem IvO.sc {s t : Mem} (iv : IvO s) (h : Sc s t) : IvO t := iv.of (h.1 0 rfl) (h.1 8 rfl) (h.2 9 rfl)
theorem IvW.sc {s t : Mem} (iv : IvW s) (h : Sc s t) : IvW t := iv.of (h.1 0 rfl) (h.1 25 rfl) (h.2 26 rfl) (h.2 27 rfl) (h.2 30 rfl)
theorem IvH.sc {s t : Mem} (iv : IvH s) (h : Sc s t) : IvH t := iv.of (h.1 16 rfl) (h.1 20 rfl) (h.1 21 rfl) (h.1 23 rfl) (h.2 22 rfl)
theorem Sc.nO {s t : Mem} (h : Sc s t) : (t.1 8).toNatClampNeg = (s.1 8).toNatClampNeg := by rw [h.1 8 rfl]
theorem sp_md_wouldLoop' (G : Gk) {h : Hp} {m : Nat} {am : Nat → Nat} {s : Mem} (r : RepM h m am s) (ivs : IvS s) (ivo : IvO s) (ivv : IvV s) (o x u : Nat) (ho : o < nO s) (hx : x < 80) (hu : u < nO s) : Ct G md_wouldLoop [.ref m, .int (nI o), .int (nI x), .int (nI u)] h
    (pI fun r h' => ∃ s', Mod h m am h' s' ∧ Sc s s' ∧ r = b01 (s.2 7 x &&& 4 = 0 ∧ (o = u ∨ (heldB s u).2.2 o ≠ -1))) := by
  refine Ct.mono (sp_md_wouldLoop G r ivs ivo ivv o x u ho hx hu) (fun v h' q => ?_)
  obtain ⟨r', q1, q2, q3⟩ := q
  rcases q2 with q2 | q2
  · exact ⟨r', q1, s, q2, Sc.rf s, q3⟩
  · exact ⟨r', q1, _, q2, Sc.sB s _, q3⟩
/-- whether an edit that leads o on to u would make a loop -/
def loopM (s : Mem) (o x u : Nat) : Prop := s.2 7 x &&& 4 = 0 ∧ (o = u ∨ (heldB s u).2.2 o ≠ -1)
theorem sp_md_lead (G : Gk) {h : Hp} {m : Nat} {am : Nat → Nat} {s : Mem} (r : RepM h m am s) (ivs : IvS s) (ivo : IvO s) (ivf : IvF s) (ivv : IvV s) (ivw : IvW s) (ivh : IvH s) (hE8 : nE s < 680) (v1 v2 v : Int32) : Ct G md_lead [.ref m, .int v1, .int v2, .int v] h
    (pI fun r h' => ((¬ hasF s v1 v2 ∨ ¬ isOb s v) ∧ h = h' ∧ r = -2) ∨ ∃ o f u, o < nO s ∧ f < nf s (sh s o) ∧ u < nO s ∧ v1 = nI o ∧ v2 = nI f ∧ v = nI u ∧
      ((s.2 3 (8 * sh s o + f) ≠ 1 ∧ h = h' ∧ r = -6) ∨ (s.2 3 (8 * sh s o + f) = 1 ∧ 0 < s.2 7 (8 * sh s o + f) &&& 2 ∧ s.2 10 (8 * o + f) ≠ MISS ∧ h = h' ∧ r = -7) ∨
      (s.2 3 (8 * sh s o + f) = 1 ∧ ¬ (0 < s.2 7 (8 * sh s o + f) &&& 2 ∧ s.2 10 (8 * o + f) ≠ MISS) ∧
        ((isOf s (nI (sh s u)) (s.2 4 (8 * sh s o + f)) = false ∧ h = h' ∧ r = -9) ∨ (isOf s (nI (sh s u)) (s.2 4 (8 * sh s o + f)) = true ∧ ∃ s', Sc s s' ∧
          ((loopM s o (8 * sh s o + f) u ∧ Mod h m am h' s' ∧ r = -10) ∨ (¬ loopM s o (8 * sh s o + f) u ∧ r = 1 ∧ ∃ t, Mod h m am h' t ∧ SetE s' o f (nI u) t))))))) := by
  have h10 := ivs.2.1
  have h60 := ivo.2.1
  refine Ct.ofL (M := md_lead) (lv := [some (.ref m), some (.int v1), some (.int v2), some (.int v), none]) mdf_md_lead rfl (Nat.le_of_ble_eq_true rfl) rfl ?_
  refine V_aload_n d_md_lead_0 rfl rfl ?_
  refine V_iload_n d_md_lead_1 rfl rfl ?_
  refine V_iload_n d_md_lead_2 rfl rfl ?_
  refine V_callV (N := md_hasField) d_md_lead_3 ml_md_169 mdf_md_hasField wi_md_hasField wz_md_hasField (sp_md_hasField G r ivs ivo _ _) r.obj ⟨_, rfl, rfl⟩ rfl rfl (by decide) (by decide) (Nat.le_of_ble_eq_true rfl) rfl rfl (kI fun r3 h3 ⟨e3, f3⟩ => ?_)
  subst e3 f3
  refine V_if_eq d_md_lead_6 (fun c6 => ?_) (fun c6 => ?_)
  · skip
    refine V_bipush (v := -2) d_md_lead_17 (by decide) ?_
    refine V_ireturn d_md_lead_19 rfl ?_
    exact ⟨_, rfl, Or.inl ⟨Or.inl (b01_e c6), rfl, rfl⟩⟩
  · skip
    refine V_aload_n d_md_lead_9 rfl rfl ?_
    refine V_iload_n d_md_lead_10 rfl rfl ?_
    refine V_callV (N := md_isObject) d_md_lead_11 ml_md_149 mdf_md_isObject wi_md_isObject wz_md_isObject (sp_md_isObject G r _) r.obj ⟨_, rfl, rfl⟩ rfl rfl (by decide) (by decide) (Nat.le_of_ble_eq_true rfl) rfl rfl (kI fun r11 h11 ⟨e11, f11⟩ => ?_)
    subst e11 f11
    refine V_if_ne d_md_lead_14 (fun c14 => ?_) (fun c14 => ?_)
    · skip
      obtain ⟨o, f, ho, rfl, hf, rfl⟩ := b01_ne c6
      obtain ⟨u, hu, rfl⟩ := isOb.ix ivo (b01_ne c14)
      obtain ⟨hs1, hs2⟩ := ivo.2.2 o ho
      obtain ⟨hu1, hu2⟩ := ivo.2.2 u hu
      have hf8 := (ivs.2.2.1 _ hs2).2
      refine V_aload_n d_md_lead_20 rfl rfl ?_
      refine V_iload_n d_md_lead_21 rfl rfl ?_
      refine V_iload_n d_md_lead_22 rfl rfl ?_
      refine V_callV (N := md_by) d_md_lead_23 ml_md_156 mdf_md_by wi_md_by wz_md_by (sp_md_by' G r o f (sh s o) (by omega) hs1) r.obj ⟨_, rfl, rfl⟩ rfl rfl (by decide) (by decide) (Nat.le_of_ble_eq_true rfl) rfl rfl (kI fun r23 h23 ⟨e23, f23⟩ => ?_)
      subst e23 f23
      refine V_istore d_md_lead_26 (by decide) rfl rfl ?_
      dsimp only [List.set]
      refine V_aload_n d_md_lead_28 rfl rfl ?_
      refine V_getf d_md_lead_29 fl_md_16 r.obj rfl ?_
      refine V_iload d_md_lead_32 rfl ?_
      refine V_mald r d_md_lead_34 (by first | with_reducible rfl | exact ix8 _ _ | exact ix6 _ _ | assumption) rfl rfl (by show _ < 80; omega) ?_
      refine V_iconst (v := 1) d_md_lead_35 (by decide) ?_
      refine V_icmp_eq d_md_lead_36 (fun c36 => ?_) (fun c36 => ?_)
      · skip
        refine V_aload_n d_md_lead_42 rfl rfl ?_
        refine V_iload_n d_md_lead_43 rfl rfl ?_
        refine V_iload_n d_md_lead_44 rfl rfl ?_
        refine V_iconst (v := 0) d_md_lead_45 (by decide) ?_
        refine V_callV (N := md_isReadOnly) d_md_lead_46 ml_md_221 mdf_md_isReadOnly wi_md_isReadOnly wz_md_isReadOnly (sp_md_isReadOnly G r ivs ivo o f ho hf 0) r.obj ⟨_, rfl, rfl⟩ rfl rfl (by decide) (by decide) (Nat.le_of_ble_eq_true rfl) rfl rfl (kI fun r46 h46 ⟨e46, f46⟩ => ?_)
        subst e46 f46
        refine V_if_eq d_md_lead_49 (fun c49 => ?_) (fun c49 => ?_)
        · skip
          have hro : ¬ (0 < s.2 7 (8 * sh s o + f) &&& 2 ∧ s.2 10 (8 * o + f) ≠ MISS) := fun q => b01_e c49 ⟨q.1, Or.inr q.2⟩
          refine V_aload_n d_md_lead_55 rfl rfl ?_
          refine V_aload_n d_md_lead_56 rfl rfl ?_
          refine V_getf d_md_lead_57 fl_md_31 r.obj rfl ?_
          refine V_iload_n d_md_lead_60 rfl rfl ?_
          refine V_mald r d_md_lead_61 (by first | with_reducible rfl | exact ix8 _ _ | exact ix6 _ _ | assumption) rfl rfl (by show _ < 60; omega) ?_
          rw [hu1]
          refine V_aload_n d_md_lead_62 rfl rfl ?_
          refine V_getf d_md_lead_63 fl_md_19 r.obj rfl ?_
          refine V_iload d_md_lead_66 rfl ?_
          refine V_mald r d_md_lead_68 (by first | with_reducible rfl | exact ix8 _ _ | exact ix6 _ _ | assumption) rfl rfl (by show _ < 80; omega) ?_
          refine V_callV (N := md_isOf) d_md_lead_69 ml_md_191 mdf_md_isOf wi_md_isOf wz_md_isOf (sp_md_isOf G r ivs _ _ (Or.inr ⟨sh s u, hu2, rfl⟩)) r.obj ⟨_, rfl, rfl⟩ rfl rfl (by decide) (by decide) (Nat.le_of_ble_eq_true rfl) rfl rfl (kI fun r69 h69 ⟨e69, f69⟩ => ?_)
          subst e69 f69
          refine V_if_ne d_md_lead_72 (fun c72 => ?_) (fun c72 => ?_)
          · skip
            refine V_aload_n d_md_lead_78 rfl rfl ?_
            refine V_iload_n d_md_lead_79 rfl rfl ?_
            refine V_iload d_md_lead_80 rfl ?_
            refine V_iload_n d_md_lead_82 rfl rfl ?_
            refine V_callV (N := md_wouldLoop) d_md_lead_83 ml_md_235 mdf_md_wouldLoop wi_md_wouldLoop wz_md_wouldLoop (sp_md_wouldLoop' G r ivs ivo ivv o _ u ho (by omega) hu) r.obj ⟨_, rfl, rfl⟩ rfl rfl (by decide) (by decide) (Nat.le_of_ble_eq_true rfl) rfl rfl (kI fun r83 h83 ⟨s', M83, S83, e83⟩ => ?_)
            subst e83
            have R83 := M83.1
            have eO : nO s' = nO s := S83.nO
            refine V_if_eq d_md_lead_86 (fun c86 => ?_) (fun c86 => ?_)
            · skip
              refine V_aload_n d_md_lead_92 rfl rfl ?_
              refine V_iload_n d_md_lead_93 rfl rfl ?_
              refine V_iload_n d_md_lead_94 rfl rfl ?_
              refine V_callV (N := md_begins) d_md_lead_95 ml_md_228 mdf_md_begins wi_md_begins wz_md_begins (sp_md_begins G R83 (ivo.sc S83) (ivh.sc S83) o f (by rw [eO]; exact ho) (by omega)) R83.obj ⟨_, rfl, rfl⟩ rfl rfl (by decide) (by decide) (Nat.le_of_ble_eq_true rfl) rfl rfl (kN fun h95 ⟨t0, M95, B95⟩ => ?_)
              have R95 := M95.1
              refine V_aload_n d_md_lead_98 rfl rfl ?_
              refine V_getf d_md_lead_99 fl_md_34 R95.obj rfl ?_
              refine V_aload_n d_md_lead_102 rfl rfl ?_
              refine V_iload_n d_md_lead_103 rfl rfl ?_
              refine V_iload_n d_md_lead_104 rfl rfl ?_
              refine V_callV (N := md_at) d_md_lead_105 ml_md_152 mdf_md_at wi_md_at wz_md_at (sp_md_at G _ _ _ _) R95.obj ⟨_, rfl, rfl⟩ rfl rfl (by decide) (by decide) (Nat.le_of_ble_eq_true rfl) rfl rfl (kI fun r105 h105 ⟨e105, f105⟩ => ?_)
              subst e105 f105
              refine V_iload_n d_md_lead_108 rfl rfl ?_
              refine V_mast R95 d_md_lead_109 (by first | with_reducible rfl | exact ix8 _ _ | exact ix6 _ _ | assumption) rfl rfl (by show _ < 480; omega) (fun h109 M109 => ?_)
              have R109 := M109.1
              refine V_aload_n d_md_lead_110 rfl rfl ?_
              refine V_iload_n d_md_lead_111 rfl rfl ?_
              refine V_iload_n d_md_lead_112 rfl rfl ?_
              refine V_callV (N := md_ends) d_md_lead_113 ml_md_232 mdf_md_ends wi_md_ends wz_md_ends (sp_md_ends' G ((M83.trans M95).trans M109) (ivs.sc S83) (ivo.sc S83) (ivw.sc S83) (ivh.sc S83) (by unfold nE at *; rw [S83.1 16 rfl]; exact hE8) o f (by rw [eO]; exact ho) (by omega) B95 rfl (fun q a b => mA_2n _ _ _ a)) R109.obj ⟨_, rfl, rfl⟩ rfl rfl (by decide) (by decide) (Nat.le_of_ble_eq_true rfl) rfl rfl (kI fun r113 h113 ⟨e113, t, M113, E113⟩ => ?_)
              refine V_ireturn d_md_lead_116 rfl ?_
              exact ⟨_, rfl, Or.inr ⟨o, f, u, ho, hf, hu, rfl, rfl, rfl, Or.inr (Or.inr ⟨c36, hro, Or.inr ⟨b01_ne c72, s', S83, Or.inr ⟨b01_e c86, e113, t, M113, t0, B95, E113⟩⟩⟩)⟩⟩
            · skip
              refine V_bipush (v := -10) d_md_lead_89 (by decide) ?_
              refine V_ireturn d_md_lead_91 rfl ?_
              exact ⟨_, rfl, Or.inr ⟨o, f, u, ho, hf, hu, rfl, rfl, rfl, Or.inr (Or.inr ⟨c36, hro, Or.inr ⟨b01_ne c72, s', S83, Or.inl ⟨b01_ne c86, M83, rfl⟩⟩⟩)⟩⟩
          · skip
            refine V_bipush (v := -9) d_md_lead_75 (by decide) ?_
            refine V_ireturn d_md_lead_77 rfl ?_
            exact ⟨_, rfl, Or.inr ⟨o, f, u, ho, hf, hu, rfl, rfl, rfl, Or.inr (Or.inr ⟨c36, hro, Or.inl ⟨by simpa using b01_e c72, rfl, rfl⟩⟩)⟩⟩
        · skip
          refine V_bipush (v := -7) d_md_lead_52 (by decide) ?_
          refine V_ireturn d_md_lead_54 rfl ?_
          have q := b01_ne c49
          exact ⟨_, rfl, Or.inr ⟨o, f, u, ho, hf, hu, rfl, rfl, rfl, Or.inr (Or.inl ⟨c36, q.1, q.2.resolve_left (fun z => z rfl), rfl, rfl⟩)⟩⟩
      · skip
        refine V_bipush (v := -6) d_md_lead_39 (by decide) ?_
        refine V_ireturn d_md_lead_41 rfl ?_
        exact ⟨_, rfl, Or.inr ⟨o, f, u, ho, hf, hu, rfl, rfl, rfl, Or.inl ⟨c36, rfl, rfl⟩⟩⟩
    · skip
      refine V_bipush (v := -2) d_md_lead_17 (by decide) ?_
      refine V_ireturn d_md_lead_19 rfl ?_
      exact ⟨_, rfl, Or.inl ⟨Or.inr (b01_e c14), rfl, rfl⟩⟩
theorem sp_md_unset (G : Gk) {h : Hp} {m : Nat} {am : Nat → Nat} {s : Mem} (r : RepM h m am s) (ivs : IvS s) (ivo : IvO s) (ivw : IvW s) (ivh : IvH s) (hE8 : nE s < 680) (v1 v2 : Int32) : Ct G md_unset [.ref m, .int v1, .int v2] h
    (pI fun r h' => (¬ hasF s v1 v2 ∧ h = h' ∧ r = -2) ∨ ∃ o f, o < nO s ∧ f < nf s (sh s o) ∧ v1 = nI o ∧ v2 = nI f ∧
      ((¬ (s.2 3 (8 * sh s o + f) = 0 ∨ s.2 3 (8 * sh s o + f) = 1) ∧ h = h' ∧ r = -6) ∨ ((s.2 3 (8 * sh s o + f) = 0 ∨ s.2 3 (8 * sh s o + f) = 1) ∧
        ((0 < s.2 7 (8 * sh s o + f) &&& 2 ∧ h = h' ∧ r = -7) ∨ (¬ 0 < s.2 7 (8 * sh s o + f) &&& 2 ∧ 0 < s.2 7 (8 * sh s o + f) &&& 1 ∧ h = h' ∧ r = -11) ∨
          (¬ 0 < s.2 7 (8 * sh s o + f) &&& 2 ∧ ¬ 0 < s.2 7 (8 * sh s o + f) &&& 1 ∧ r = 1 ∧ ∃ t, Mod h m am h' t ∧ SetE s o f MISS t))))) := by
  have h10 := ivs.2.1
  have h60 := ivo.2.1
  refine Ct.ofL (M := md_unset) (lv := [some (.ref m), some (.int v1), some (.int v2), none]) mdf_md_unset rfl (Nat.le_of_ble_eq_true rfl) rfl ?_
  refine V_aload_n d_md_unset_0 rfl rfl ?_
  refine V_iload_n d_md_unset_1 rfl rfl ?_
  refine V_iload_n d_md_unset_2 rfl rfl ?_
  refine V_callV (N := md_hasField) d_md_unset_3 ml_md_169 mdf_md_hasField wi_md_hasField wz_md_hasField (sp_md_hasField G r ivs ivo _ _) r.obj ⟨_, rfl, rfl⟩ rfl rfl (by decide) (by decide) (Nat.le_of_ble_eq_true rfl) rfl rfl (kI fun r3 h3 ⟨e3, f3⟩ => ?_)
  subst e3 f3
  refine V_if_ne d_md_unset_6 (fun c6 => ?_) (fun c6 => ?_)
  · skip
    obtain ⟨o, f, ho, rfl, hf, rfl⟩ := b01_ne c6
    obtain ⟨hs1, hs2⟩ := ivo.2.2 o ho
    have hf8 := (ivs.2.2.1 _ hs2).2
    refine V_aload_n d_md_unset_12 rfl rfl ?_
    refine V_iload_n d_md_unset_13 rfl rfl ?_
    refine V_iload_n d_md_unset_14 rfl rfl ?_
    refine V_callV (N := md_by) d_md_unset_15 ml_md_156 mdf_md_by wi_md_by wz_md_by (sp_md_by' G r o f (sh s o) (by omega) hs1) r.obj ⟨_, rfl, rfl⟩ rfl rfl (by decide) (by decide) (Nat.le_of_ble_eq_true rfl) rfl rfl (kI fun r15 h15 ⟨e15, f15⟩ => ?_)
    subst e15 f15
    refine V_istore_n d_md_unset_18 rfl (by decide) rfl rfl ?_
    dsimp only [List.set]
    refine V_aload_n d_md_unset_19 rfl rfl ?_
    refine V_getf d_md_unset_20 fl_md_16 r.obj rfl ?_
    refine V_iload_n d_md_unset_23 rfl rfl ?_
    refine V_mald r d_md_unset_24 (by first | with_reducible rfl | exact ix8 _ _ | exact ix6 _ _ | assumption) rfl rfl (by show _ < 80; omega) ?_
    refine V_if_eq d_md_unset_25 (fun c25 => ?_) (fun c25 => ?_)
    · skip
      have hkd : s.2 3 (8 * sh s o + f) = 0 ∨ s.2 3 (8 * sh s o + f) = 1 := Or.inl c25
      refine V_aload_n d_md_unset_41 rfl rfl ?_
      refine V_iload_n d_md_unset_42 rfl rfl ?_
      refine V_iload_n d_md_unset_43 rfl rfl ?_
      refine V_iconst (v := 1) d_md_unset_44 (by decide) ?_
      refine V_callV (N := md_isReadOnly) d_md_unset_45 ml_md_221 mdf_md_isReadOnly wi_md_isReadOnly wz_md_isReadOnly (sp_md_isReadOnly G r ivs ivo o f ho hf 1) r.obj ⟨_, rfl, rfl⟩ rfl rfl (by decide) (by decide) (Nat.le_of_ble_eq_true rfl) rfl rfl (kI fun r45 h45 ⟨e45, f45⟩ => ?_)
      subst e45 f45
      refine V_if_eq d_md_unset_48 (fun c48 => ?_) (fun c48 => ?_)
      · skip
        have hro : ¬ 0 < s.2 7 (8 * sh s o + f) &&& 2 := fun q => b01_e c48 ⟨q, Or.inl (by decide)⟩
        refine V_aload_n d_md_unset_54 rfl rfl ?_
        refine V_getf d_md_unset_55 fl_md_28 r.obj rfl ?_
        refine V_iload_n d_md_unset_58 rfl rfl ?_
        refine V_mald r d_md_unset_59 (by first | with_reducible rfl | exact ix8 _ _ | exact ix6 _ _ | assumption) rfl rfl (by show _ < 80; omega) ?_
        refine V_iconst (v := 1) d_md_unset_60 (by decide) ?_
        refine V_iand d_md_unset_61 ?_
        refine V_if_le d_md_unset_62 (fun c62 => ?_) (fun c62 => ?_)
        · skip
          refine V_aload_n d_md_unset_68 rfl rfl ?_
          refine V_iload_n d_md_unset_69 rfl rfl ?_
          refine V_iload_n d_md_unset_70 rfl rfl ?_
          refine V_callV (N := md_begins) d_md_unset_71 ml_md_228 mdf_md_begins wi_md_begins wz_md_begins (sp_md_begins G r ivo ivh o f ho (by omega)) r.obj ⟨_, rfl, rfl⟩ rfl rfl (by decide) (by decide) (Nat.le_of_ble_eq_true rfl) rfl rfl (kN fun h71 ⟨t0, M71, B71⟩ => ?_)
          have R71 := M71.1
          refine V_aload_n d_md_unset_74 rfl rfl ?_
          refine V_getf d_md_unset_75 fl_md_34 R71.obj rfl ?_
          refine V_aload_n d_md_unset_78 rfl rfl ?_
          refine V_iload_n d_md_unset_79 rfl rfl ?_
          refine V_iload_n d_md_unset_80 rfl rfl ?_
          refine V_callV (N := md_at) d_md_unset_81 ml_md_152 mdf_md_at wi_md_at wz_md_at (sp_md_at G _ _ _ _) R71.obj ⟨_, rfl, rfl⟩ rfl rfl (by decide) (by decide) (Nat.le_of_ble_eq_true rfl) rfl rfl (kI fun r81 h81 ⟨e81, f81⟩ => ?_)
          subst e81 f81
          refine V_ldc d_md_unset_84 kc_md_129 ?_
          refine V_mast R71 d_md_unset_86 (by first | with_reducible rfl | exact ix8 _ _ | exact ix6 _ _ | assumption) rfl rfl (by show _ < 480; omega) (fun h86 M86 => ?_)
          have R86 := M86.1
          refine V_aload_n d_md_unset_87 rfl rfl ?_
          refine V_iload_n d_md_unset_88 rfl rfl ?_
          refine V_iload_n d_md_unset_89 rfl rfl ?_
          refine V_callV (N := md_ends) d_md_unset_90 ml_md_232 mdf_md_ends wi_md_ends wz_md_ends (sp_md_ends' G (M71.trans M86) ivs ivo ivw ivh hE8 o f ho (by omega) B71 rfl (fun q a b => mA_2n _ _ _ a)) R86.obj ⟨_, rfl, rfl⟩ rfl rfl (by decide) (by decide) (Nat.le_of_ble_eq_true rfl) rfl rfl (kI fun r90 h90 ⟨e90, t, M90, E90⟩ => ?_)
          refine V_ireturn d_md_unset_93 rfl ?_
          exact ⟨_, rfl, Or.inr ⟨o, f, ho, hf, rfl, rfl, Or.inr ⟨hkd, Or.inr (Or.inr ⟨hro, Int32.not_lt.mpr c62, e90, t, M90, t0, B71, E90⟩)⟩⟩⟩
        · skip
          refine V_bipush (v := -11) d_md_unset_65 (by decide) ?_
          refine V_ireturn d_md_unset_67 rfl ?_
          exact ⟨_, rfl, Or.inr ⟨o, f, ho, hf, rfl, rfl, Or.inr ⟨hkd, Or.inr (Or.inl ⟨hro, Int32.not_le.mp c62, rfl, rfl⟩)⟩⟩⟩
      · skip
        refine V_bipush (v := -7) d_md_unset_51 (by decide) ?_
        refine V_ireturn d_md_unset_53 rfl ?_
        exact ⟨_, rfl, Or.inr ⟨o, f, ho, hf, rfl, rfl, Or.inr ⟨hkd, Or.inl ⟨(b01_ne c48).1, rfl, rfl⟩⟩⟩⟩
    · skip
      refine V_aload_n d_md_unset_28 rfl rfl ?_
      refine V_getf d_md_unset_29 fl_md_16 r.obj rfl ?_
      refine V_iload_n d_md_unset_32 rfl rfl ?_
      refine V_mald r d_md_unset_33 (by first | with_reducible rfl | exact ix8 _ _ | exact ix6 _ _ | assumption) rfl rfl (by show _ < 80; omega) ?_
      refine V_iconst (v := 1) d_md_unset_34 (by decide) ?_
      refine V_icmp_eq d_md_unset_35 (fun c35 => ?_) (fun c35 => ?_)
      · skip
        have hkd : s.2 3 (8 * sh s o + f) = 0 ∨ s.2 3 (8 * sh s o + f) = 1 := Or.inr c35
        refine V_aload_n d_md_unset_41 rfl rfl ?_
        refine V_iload_n d_md_unset_42 rfl rfl ?_
        refine V_iload_n d_md_unset_43 rfl rfl ?_
        refine V_iconst (v := 1) d_md_unset_44 (by decide) ?_
        refine V_callV (N := md_isReadOnly) d_md_unset_45 ml_md_221 mdf_md_isReadOnly wi_md_isReadOnly wz_md_isReadOnly (sp_md_isReadOnly G r ivs ivo o f ho hf 1) r.obj ⟨_, rfl, rfl⟩ rfl rfl (by decide) (by decide) (Nat.le_of_ble_eq_true rfl) rfl rfl (kI fun r45 h45 ⟨e45, f45⟩ => ?_)
        subst e45 f45
        refine V_if_eq d_md_unset_48 (fun c48 => ?_) (fun c48 => ?_)
        · skip
          have hro : ¬ 0 < s.2 7 (8 * sh s o + f) &&& 2 := fun q => b01_e c48 ⟨q, Or.inl (by decide)⟩
          refine V_aload_n d_md_unset_54 rfl rfl ?_
          refine V_getf d_md_unset_55 fl_md_28 r.obj rfl ?_
          refine V_iload_n d_md_unset_58 rfl rfl ?_
          refine V_mald r d_md_unset_59 (by first | with_reducible rfl | exact ix8 _ _ | exact ix6 _ _ | assumption) rfl rfl (by show _ < 80; omega) ?_
          refine V_iconst (v := 1) d_md_unset_60 (by decide) ?_
          refine V_iand d_md_unset_61 ?_
          refine V_if_le d_md_unset_62 (fun c62 => ?_) (fun c62 => ?_)
          · skip
            refine V_aload_n d_md_unset_68 rfl rfl ?_
            refine V_iload_n d_md_unset_69 rfl rfl ?_
            refine V_iload_n d_md_unset_70 rfl rfl ?_
            refine V_callV (N := md_begins) d_md_unset_71 ml_md_228 mdf_md_begins wi_md_begins wz_md_begins (sp_md_begins G r ivo ivh o f ho (by omega)) r.obj ⟨_, rfl, rfl⟩ rfl rfl (by decide) (by decide) (Nat.le_of_ble_eq_true rfl) rfl rfl (kN fun h71 ⟨t0, M71, B71⟩ => ?_)
            have R71 := M71.1
            refine V_aload_n d_md_unset_74 rfl rfl ?_
            refine V_getf d_md_unset_75 fl_md_34 R71.obj rfl ?_
            refine V_aload_n d_md_unset_78 rfl rfl ?_
            refine V_iload_n d_md_unset_79 rfl rfl ?_
            refine V_iload_n d_md_unset_80 rfl rfl ?_
            refine V_callV (N := md_at) d_md_unset_81 ml_md_152 mdf_md_at wi_md_at wz_md_at (sp_md_at G _ _ _ _) R71.obj ⟨_, rfl, rfl⟩ rfl rfl (by decide) (by decide) (Nat.le_of_ble_eq_true rfl) rfl rfl (kI fun r81 h81 ⟨e81, f81⟩ => ?_)
            subst e81 f81
            refine V_ldc d_md_unset_84 kc_md_129 ?_
            refine V_mast R71 d_md_unset_86 (by first | with_reducible rfl | exact ix8 _ _ | exact ix6 _ _ | assumption) rfl rfl (by show _ < 480; omega) (fun h86 M86 => ?_)
            have R86 := M86.1
            refine V_aload_n d_md_unset_87 rfl rfl ?_
            refine V_iload_n d_md_unset_88 rfl rfl ?_
            refine V_iload_n d_md_unset_89 rfl rfl ?_
            refine V_callV (N := md_ends) d_md_unset_90 ml_md_232 mdf_md_ends wi_md_ends wz_md_ends (sp_md_ends' G (M71.trans M86) ivs ivo ivw ivh hE8 o f ho (by omega) B71 rfl (fun q a b => mA_2n _ _ _ a)) R86.obj ⟨_, rfl, rfl⟩ rfl rfl (by decide) (by decide) (Nat.le_of_ble_eq_true rfl) rfl rfl (kI fun r90 h90 ⟨e90, t, M90, E90⟩ => ?_)
            refine V_ireturn d_md_unset_93 rfl ?_
            exact ⟨_, rfl, Or.inr ⟨o, f, ho, hf, rfl, rfl, Or.inr ⟨hkd, Or.inr (Or.inr ⟨hro, Int32.not_lt.mpr c62, e90, t, M90, t0, B71, E90⟩)⟩⟩⟩
          · skip
            refine V_bipush (v := -11) d_md_unset_65 (by decide) ?_
            refine V_ireturn d_md_unset_67 rfl ?_
            exact ⟨_, rfl, Or.inr ⟨o, f, ho, hf, rfl, rfl, Or.inr ⟨hkd, Or.inr (Or.inl ⟨hro, Int32.not_le.mp c62, rfl, rfl⟩)⟩⟩⟩
        · skip
          refine V_bipush (v := -7) d_md_unset_51 (by decide) ?_
          refine V_ireturn d_md_unset_53 rfl ?_
          exact ⟨_, rfl, Or.inr ⟨o, f, ho, hf, rfl, rfl, Or.inr ⟨hkd, Or.inl ⟨(b01_ne c48).1, rfl, rfl⟩⟩⟩⟩
      · skip
        refine V_bipush (v := -6) d_md_unset_38 (by decide) ?_
        refine V_ireturn d_md_unset_40 rfl ?_
        exact ⟨_, rfl, Or.inr ⟨o, f, ho, hf, rfl, rfl, Or.inl ⟨fun q => q.elim c25 c35, rfl, rfl⟩⟩⟩
  · skip
    refine V_bipush (v := -2) d_md_unset_9 (by decide) ?_
    refine V_ireturn d_md_unset_11 rfl ?_
    exact ⟨_, rfl, Or.inl ⟨b01_e c6, rfl, rfl⟩⟩
