/-! the reference's paths: path, step, fault -/
def nP (s : Mem) : Nat := (s.1 33).toNatClampNeg
def sp (s : Mem) (p : Nat) : Nat := (s.2 34 p).toNatClampNeg
def StOK (s : Mem) (k n : Int32) : Prop := (0 ≤ k ∧ k ≤ 4) ∧ (k = 0 → 0 ≤ n ∧ n ≤ 7) ∧ (k = 1 → 0 ≤ n ∧ n ≤ 5) ∧ (k = 4 → isSh s n)
def IvP (s : Mem) : Prop := s.1 33 = nI (nP s) ∧ nP s ≤ 16 ∧ ∀ p, p < nP s → s.2 34 p = nI (sp s p) ∧ sp s p ≤ 5 ∧ ∀ i, i < sp s p → StOK s (s.2 35 (5 * p + i)) (s.2 36 (5 * p + i))
abbrev isPa (s : Mem) (v : Int32) : Prop := 0 ≤ v ∧ v ≤ s.1 33 - 1
theorem isPa.ix {s : Mem} {v : Int32} (iv : IvP s) (h : isPa s v) : ∃ i, i < nP s ∧ v = nI i := ix_of iv.1 (by have := iv.2.1; omega) h
theorem isPa.no {s : Mem} {v : Int32} (iv : IvP s) (h : ¬ isPa s v) : ∀ i, i < nP s → v ≠ nI i := ix_no iv.1 (by have := iv.2.1; omega) h
theorem IvP.of {s t : Mem} (iv : IvP s) (a : t.1 33 = s.1 33) (b : t.2 34 = s.2 34) (c : t.2 35 = s.2 35) (d : t.2 36 = s.2 36) (e : t.1 0 = s.1 0) : IvP t := by
  unfold IvP StOK nP sp isSh at *
  rw [a, b, c, d, e]
  exact iv
theorem sp_md_isPath (G : Gk) {h : Hp} {m : Nat} {am : Nat → Nat} {s : Mem} (r : RepM h m am s) (v : Int32) : Ct G md_isPath [.ref m, .int v] h (pI fun r h' => h = h' ∧ r = b01 (isPa s v)) := by
  have h0 := r.obj
  refine Ct.ofL (M := md_isPath) (lv := [some (.ref m), some (.int v)]) mdf_md_isPath rfl (Nat.le_of_ble_eq_true rfl) rfl ?_
  refine V_iload_n d_md_isPath_0 rfl rfl ?_
  refine V_iconst (v := 0) d_md_isPath_1 (by decide) ?_
  refine V_aload_n d_md_isPath_2 rfl rfl ?_
  refine V_getf d_md_isPath_3 fl_md_257 r.obj rfl ?_
  refine V_iconst (v := 1) d_md_isPath_6 (by decide) ?_
  refine V_isub d_md_isPath_7 ?_
  refine V_callS (N := md_in) d_md_isPath_8 ml_md_114 mdf_md_in ws_md_in (sp_md_in G _ _ _ _) rfl rfl (by decide) (by decide) (Nat.le_of_ble_eq_true rfl) rfl rfl (kI fun r8 h8 ⟨e8, f8⟩ => ?_)
  subst e8 f8
  refine V_zreturn d_md_isPath_11 rfl (b01_or _) ?_
  exact ⟨_, rfl, rfl, rfl⟩
theorem sp_md_path (G : Gk) {h : Hp} {m : Nat} {am : Nat → Nat} {s : Mem} (r : RepM h m am s) (ivp : IvP s) : Ct G md_path [.ref m] h
    (pI fun r h' => (nP s = 16 ∧ h = h' ∧ r = -4) ∨ (nP s < 16 ∧ r = nI (nP s) ∧ Mod h m am h' (mF (mA s 34 (nP s) 0) 33 (nI (nP s + 1))))) := by
  obtain ⟨h33, h16, -⟩ := ivp
  refine Ct.ofL (M := md_path) (lv := [some (.ref m)]) mdf_md_path rfl (Nat.le_of_ble_eq_true rfl) rfl ?_
  refine V_aload_n d_md_path_0 rfl rfl ?_
  refine V_getf d_md_path_1 fl_md_257 r.obj rfl ?_
  rw [h33]
  refine V_bipush (v := 16) d_md_path_4 (by decide) ?_
  refine V_icmp_ne d_md_path_6 (fun c6 => ?_) (fun c6 => ?_)
  · skip
    have hlt : nP s < 16 := by rcases Nat.lt_or_ge (nP s) 16 with q | q; exact q; exact absurd (by rw [show nP s = 16 by omega]; rfl) c6
    refine V_aload_n d_md_path_12 rfl rfl ?_
    refine V_getf d_md_path_13 fl_md_83 r.obj rfl ?_
    refine V_aload_n d_md_path_16 rfl rfl ?_
    refine V_getf d_md_path_17 fl_md_257 r.obj rfl ?_
    rw [h33]
    refine V_iconst (v := 0) d_md_path_20 (by decide) ?_
    refine V_mast r d_md_path_21 (by first | with_reducible rfl | exact ix8 _ _ | exact ix6 _ _ | assumption) rfl rfl (by show _ < 16; omega) (fun h21 M21 => ?_)
    have R21 := M21.1
    refine V_aload_n d_md_path_22 rfl rfl ?_
    refine V_dup d_md_path_23 rfl ?_
    refine V_getf d_md_path_24 fl_md_257 R21.obj rfl ?_
    rw [mA_1, h33]
    refine V_iconst (v := 1) d_md_path_27 (by decide) ?_
    refine V_iadd d_md_path_28 ?_
    rw [nI_1]
    refine V_mput (j := 33) R21 d_md_path_29 fp_md_257 rfl rfl (by decide) (fun h29 M29 => ?_)
    have R29 := M29.1
    refine V_aload_n d_md_path_32 rfl rfl ?_
    refine V_getf d_md_path_33 fl_md_257 R29.obj rfl ?_
    rw [mF_1s]
    refine V_iconst (v := 1) d_md_path_36 (by decide) ?_
    refine V_isub d_md_path_37 ?_
    rw [nI_pred]
    refine V_ireturn d_md_path_38 rfl ?_
    exact ⟨_, rfl, Or.inr ⟨hlt, rfl, M21.trans M29⟩⟩
  · skip
    refine V_bipush (v := -4) d_md_path_9 (by decide) ?_
    refine V_ireturn d_md_path_11 rfl ?_
    exact ⟨_, rfl, Or.inl ⟨eqN c6 (by omega) (by decide), rfl, rfl⟩⟩
theorem ix5 (p k : Nat) : (5 : Int32) * nI p + nI k = nI (5 * p + k) := by
  rw [show (5 : Int32) = nI 5 from rfl, pk_mul, nI_add]
theorem sp_md_step (G : Gk) {h : Hp} {m : Nat} {am : Nat → Nat} {s : Mem} (r : RepM h m am s) (ivp : IvP s) (v k n : Int32) : Ct G md_step [.ref m, .int v, .int k, .int n] h
    (pI fun r h' => (¬ (isPa s v ∧ StOK s k n) ∧ h = h' ∧ r = -2) ∨ ∃ p, p < nP s ∧ v = nI p ∧ StOK s k n ∧ ((sp s p = 5 ∧ h = h' ∧ r = -4) ∨ (sp s p < 5 ∧ r = nI (sp s p + 1) ∧ Mod h m am h' (mA (mA (mA s 35 (5 * p + sp s p) k) 36 (5 * p + sp s p) n) 34 p (nI (sp s p + 1)))))) := by
  obtain ⟨h33, h16, hst⟩ := id ivp
  have tail : ∀ p, p < nP s → StOK s k n → V G md_step (pI fun r h' => (¬ (isPa s (nI p) ∧ StOK s k n) ∧ h = h' ∧ r = -2) ∨ ∃ p', p' < nP s ∧ nI p = nI p' ∧ StOK s k n ∧ ((sp s p' = 5 ∧ h = h' ∧ r = -4) ∨ (sp s p' < 5 ∧ r = nI (sp s p' + 1) ∧ Mod h m am h' (mA (mA (mA s 35 (5 * p' + sp s p') k) 36 (5 * p' + sp s p') n) 34 p' (nI (sp s p' + 1)))))) h 0 0 61 [some (.ref m), some (.int (nI p)), some (.int k), some (.int n)] [] := by
    intro p hp hk
    obtain ⟨h34, h5, -⟩ := hst p hp
    refine V_aload_n d_md_step_61 rfl rfl ?_
    refine V_getf d_md_step_62 fl_md_83 r.obj rfl ?_
    refine V_iload_n d_md_step_65 rfl rfl ?_
    refine V_mald r d_md_step_66 (by first | with_reducible rfl | exact ix8 _ _ | exact ix6 _ _ | assumption) rfl rfl (by show _ < 16; omega) ?_
    rw [h34]
    refine V_iconst (v := 5) d_md_step_67 (by decide) ?_
    refine V_icmp_ne d_md_step_68 (fun c68 => ?_) (fun c68 => ?_)
    · skip
      have hlt : sp s p < 5 := by rcases Nat.lt_or_ge (sp s p) 5 with q | q; exact q; exact absurd (by rw [show sp s p = 5 by omega]; rfl) c68
      refine V_aload_n d_md_step_74 rfl rfl ?_
      refine V_getf d_md_step_75 fl_md_86 r.obj rfl ?_
      refine V_iconst (v := 5) d_md_step_78 (by decide) ?_
      refine V_iload_n d_md_step_79 rfl rfl ?_
      refine V_imul d_md_step_80 ?_
      refine V_aload_n d_md_step_81 rfl rfl ?_
      refine V_getf d_md_step_82 fl_md_83 r.obj rfl ?_
      refine V_iload_n d_md_step_85 rfl rfl ?_
      refine V_mald r d_md_step_86 (by first | with_reducible rfl | exact ix8 _ _ | exact ix6 _ _ | assumption) rfl rfl (by show _ < 16; omega) ?_
      rw [h34]
      refine V_iadd d_md_step_87 ?_
      rw [ix5]
      refine V_iload_n d_md_step_88 rfl rfl ?_
      refine V_mast r d_md_step_89 (by first | with_reducible rfl | exact ix8 _ _ | exact ix6 _ _ | assumption) rfl rfl (by show _ < 80; omega) (fun h89 M89 => ?_)
      have R89 := M89.1
      refine V_aload_n d_md_step_90 rfl rfl ?_
      refine V_getf d_md_step_91 fl_md_89 R89.obj rfl ?_
      refine V_iconst (v := 5) d_md_step_94 (by decide) ?_
      refine V_iload_n d_md_step_95 rfl rfl ?_
      refine V_imul d_md_step_96 ?_
      refine V_aload_n d_md_step_97 rfl rfl ?_
      refine V_getf d_md_step_98 fl_md_83 R89.obj rfl ?_
      refine V_iload_n d_md_step_101 rfl rfl ?_
      refine V_mald R89 d_md_step_102 (by first | with_reducible rfl | exact ix8 _ _ | exact ix6 _ _ | assumption) rfl rfl (by show _ < 16; omega) ?_
      simp (disch := first | decide | omega) only [mA_2s, mA_2n, mA_1, mF_2, mF_1s, mF_1n, pk_us, pk_un]
      rw [h34]
      refine V_iadd d_md_step_103 ?_
      rw [ix5]
      refine V_iload_n d_md_step_104 rfl rfl ?_
      refine V_mast R89 d_md_step_105 (by first | with_reducible rfl | exact ix8 _ _ | exact ix6 _ _ | assumption) rfl rfl (by show _ < 80; omega) (fun h105 M105 => ?_)
      have R105 := M105.1
      refine V_aload_n d_md_step_106 rfl rfl ?_
      refine V_getf d_md_step_107 fl_md_83 R105.obj rfl ?_
      refine V_iload_n d_md_step_110 rfl rfl ?_
      refine V_dup2 d_md_step_111 rfl rfl ?_
      refine V_mald R105 d_md_step_112 (by first | with_reducible rfl | exact ix8 _ _ | exact ix6 _ _ | assumption) rfl rfl (by show _ < 16; omega) ?_
      simp (disch := first | decide | omega) only [mA_2s, mA_2n, mA_1, mF_2, mF_1s, mF_1n, pk_us, pk_un]
      rw [h34]
      refine V_iconst (v := 1) d_md_step_113 (by decide) ?_
      refine V_iadd d_md_step_114 ?_
      rw [nI_1]
      refine V_mast R105 d_md_step_115 (by first | with_reducible rfl | exact ix8 _ _ | exact ix6 _ _ | assumption) rfl rfl (by show _ < 16; omega) (fun h115 M115 => ?_)
      have R115 := M115.1
      refine V_aload_n d_md_step_116 rfl rfl ?_
      refine V_getf d_md_step_117 fl_md_83 R115.obj rfl ?_
      refine V_iload_n d_md_step_120 rfl rfl ?_
      refine V_mald R115 d_md_step_121 (by first | with_reducible rfl | exact ix8 _ _ | exact ix6 _ _ | assumption) rfl rfl (by show _ < 16; omega) ?_
      simp (disch := first | decide | omega) only [mA_2s, mA_2n, mA_1, mF_2, mF_1s, mF_1n, pk_us, pk_un]
      refine V_ireturn d_md_step_122 rfl ?_
      exact ⟨_, rfl, Or.inr ⟨p, hp, rfl, hk, Or.inr ⟨hlt, rfl, (M89.trans M105).trans M115⟩⟩⟩
    · skip
      refine V_bipush (v := -4) d_md_step_71 (by decide) ?_
      refine V_ireturn d_md_step_73 rfl ?_
      exact ⟨_, rfl, Or.inr ⟨p, hp, rfl, hk, Or.inl ⟨eqN c68 (by omega) (by decide), rfl, rfl⟩⟩⟩
  refine Ct.ofL (M := md_step) (lv := [some (.ref m), some (.int v), some (.int k), some (.int n)]) mdf_md_step rfl (Nat.le_of_ble_eq_true rfl) rfl ?_
  refine V_aload_n d_md_step_0 rfl rfl ?_
  refine V_iload_n d_md_step_1 rfl rfl ?_
  refine V_callV (N := md_isPath) d_md_step_2 ml_md_260 mdf_md_isPath wi_md_isPath wz_md_isPath (sp_md_isPath G r _) r.obj ⟨_, rfl, rfl⟩ rfl rfl (by decide) (by decide) (Nat.le_of_ble_eq_true rfl) rfl rfl (kI fun r2 h2 ⟨e2, f2⟩ => ?_)
  subst e2 f2
  refine V_if_eq d_md_step_5 (fun c5 => ?_) (fun c5 => ?_)
  · skip
    refine V_bipush (v := -2) d_md_step_58 (by decide) ?_
    refine V_ireturn d_md_step_60 rfl ?_
    exact ⟨_, rfl, Or.inl ⟨fun q => b01_e c5 q.1, rfl, rfl⟩⟩
  · skip
    obtain ⟨p, hp, rfl⟩ := isPa.ix ivp (b01_ne c5)
    refine V_iload_n d_md_step_8 rfl rfl ?_
    refine V_iconst (v := 0) d_md_step_9 (by decide) ?_
    refine V_iconst (v := 4) d_md_step_10 (by decide) ?_
    refine V_callS (N := md_in) d_md_step_11 ml_md_114 mdf_md_in ws_md_in (sp_md_in G _ _ _ _) rfl rfl (by decide) (by decide) (Nat.le_of_ble_eq_true rfl) rfl rfl (kI fun r11 h11 ⟨e11, f11⟩ => ?_)
    subst e11 f11
    refine V_if_eq d_md_step_14 (fun c14 => ?_) (fun c14 => ?_)
    · skip
      refine V_bipush (v := -2) d_md_step_58 (by decide) ?_
      refine V_ireturn d_md_step_60 rfl ?_
      exact ⟨_, rfl, Or.inl ⟨fun q => b01_e c14 q.2.1, rfl, rfl⟩⟩
    · skip
      refine V_iload_n d_md_step_17 rfl rfl ?_
      refine V_if_ne d_md_step_18 (fun c18 => ?_) (fun c18 => ?_)
      · skip
        refine V_iload_n d_md_step_31 rfl rfl ?_
        refine V_iconst (v := 1) d_md_step_32 (by decide) ?_
        refine V_icmp_ne d_md_step_33 (fun c33 => ?_) (fun c33 => ?_)
        · skip
          refine V_iload_n d_md_step_45 rfl rfl ?_
          refine V_iconst (v := 4) d_md_step_46 (by decide) ?_
          refine V_icmp_ne d_md_step_47 (fun c47 => ?_) (fun c47 => ?_)
          · skip
            refine tail p hp ⟨b01_ne c14, ?_, ?_, ?_⟩
            · intro q; first | exact absurd q c18 | exact b01_ne c28
            · intro q; first | exact absurd q c33 | exact b01_ne c42
            · intro q; first | exact absurd q c47 | exact b01_ne c55
          · skip
            refine V_aload_n d_md_step_50 rfl rfl ?_
            refine V_iload_n d_md_step_51 rfl rfl ?_
            refine V_callV (N := md_isShape) d_md_step_52 ml_md_118 mdf_md_isShape wi_md_isShape wz_md_isShape (sp_md_isShape G r _) r.obj ⟨_, rfl, rfl⟩ rfl rfl (by decide) (by decide) (Nat.le_of_ble_eq_true rfl) rfl rfl (kI fun r52 h52 ⟨e52, f52⟩ => ?_)
            subst e52 f52
            refine V_if_ne d_md_step_55 (fun c55 => ?_) (fun c55 => ?_)
            · skip
              refine tail p hp ⟨b01_ne c14, ?_, ?_, ?_⟩
              · intro q; first | exact absurd q c18 | exact b01_ne c28
              · intro q; first | exact absurd q c33 | exact b01_ne c42
              · intro q; first | exact absurd q c47 | exact b01_ne c55
            · skip
              refine V_bipush (v := -2) d_md_step_58 (by decide) ?_
              refine V_ireturn d_md_step_60 rfl ?_
              refine ⟨_, rfl, Or.inl ⟨?_, rfl, rfl⟩⟩
              rintro ⟨-, -, q0, q1, q4⟩
              first | exact b01_e c28 (q0 c18) | exact b01_e c42 (q1 c33) | exact b01_e c55 (q4 c47)
        · skip
          refine V_iload_n d_md_step_36 rfl rfl ?_
          refine V_iconst (v := 0) d_md_step_37 (by decide) ?_
          refine V_iconst (v := 5) d_md_step_38 (by decide) ?_
          refine V_callS (N := md_in) d_md_step_39 ml_md_114 mdf_md_in ws_md_in (sp_md_in G _ _ _ _) rfl rfl (by decide) (by decide) (Nat.le_of_ble_eq_true rfl) rfl rfl (kI fun r39 h39 ⟨e39, f39⟩ => ?_)
          subst e39 f39
          refine V_if_eq d_md_step_42 (fun c42 => ?_) (fun c42 => ?_)
          · skip
            refine V_bipush (v := -2) d_md_step_58 (by decide) ?_
            refine V_ireturn d_md_step_60 rfl ?_
            refine ⟨_, rfl, Or.inl ⟨?_, rfl, rfl⟩⟩
            rintro ⟨-, -, q0, q1, q4⟩
            first | exact b01_e c28 (q0 c18) | exact b01_e c42 (q1 c33) | exact b01_e c55 (q4 c47)
          · skip
            refine V_iload_n d_md_step_45 rfl rfl ?_
            refine V_iconst (v := 4) d_md_step_46 (by decide) ?_
            refine V_icmp_ne d_md_step_47 (fun c47 => ?_) (fun c47 => ?_)
            · skip
              refine tail p hp ⟨b01_ne c14, ?_, ?_, ?_⟩
              · intro q; first | exact absurd q c18 | exact b01_ne c28
              · intro q; first | exact absurd q c33 | exact b01_ne c42
              · intro q; first | exact absurd q c47 | exact b01_ne c55
            · skip
              refine V_aload_n d_md_step_50 rfl rfl ?_
              refine V_iload_n d_md_step_51 rfl rfl ?_
              refine V_callV (N := md_isShape) d_md_step_52 ml_md_118 mdf_md_isShape wi_md_isShape wz_md_isShape (sp_md_isShape G r _) r.obj ⟨_, rfl, rfl⟩ rfl rfl (by decide) (by decide) (Nat.le_of_ble_eq_true rfl) rfl rfl (kI fun r52 h52 ⟨e52, f52⟩ => ?_)
              subst e52 f52
              refine V_if_ne d_md_step_55 (fun c55 => ?_) (fun c55 => ?_)
              · skip
                refine tail p hp ⟨b01_ne c14, ?_, ?_, ?_⟩
                · intro q; first | exact absurd q c18 | exact b01_ne c28
                · intro q; first | exact absurd q c33 | exact b01_ne c42
                · intro q; first | exact absurd q c47 | exact b01_ne c55
              · skip
                refine V_bipush (v := -2) d_md_step_58 (by decide) ?_
                refine V_ireturn d_md_step_60 rfl ?_
                refine ⟨_, rfl, Or.inl ⟨?_, rfl, rfl⟩⟩
                rintro ⟨-, -, q0, q1, q4⟩
                first | exact b01_e c28 (q0 c18) | exact b01_e c42 (q1 c33) | exact b01_e c55 (q4 c47)
      · skip
        refine V_iload_n d_md_step_21 rfl rfl ?_
        refine V_iconst (v := 0) d_md_step_22 (by decide) ?_
        refine V_bipush (v := 7) d_md_step_23 (by decide) ?_
        refine V_callS (N := md_in) d_md_step_25 ml_md_114 mdf_md_in ws_md_in (sp_md_in G _ _ _ _) rfl rfl (by decide) (by decide) (Nat.le_of_ble_eq_true rfl) rfl rfl (kI fun r25 h25 ⟨e25, f25⟩ => ?_)
        subst e25 f25
        refine V_if_eq d_md_step_28 (fun c28 => ?_) (fun c28 => ?_)
        · skip
          refine V_bipush (v := -2) d_md_step_58 (by decide) ?_
          refine V_ireturn d_md_step_60 rfl ?_
          refine ⟨_, rfl, Or.inl ⟨?_, rfl, rfl⟩⟩
          rintro ⟨-, -, q0, q1, q4⟩
          first | exact b01_e c28 (q0 c18) | exact b01_e c42 (q1 c33) | exact b01_e c55 (q4 c47)
        · skip
          refine V_iload_n d_md_step_31 rfl rfl ?_
          refine V_iconst (v := 1) d_md_step_32 (by decide) ?_
          refine V_icmp_ne d_md_step_33 (fun c33 => ?_) (fun c33 => ?_)
          · skip
            refine V_iload_n d_md_step_45 rfl rfl ?_
            refine V_iconst (v := 4) d_md_step_46 (by decide) ?_
            refine V_icmp_ne d_md_step_47 (fun c47 => ?_) (fun c47 => ?_)
            · skip
              refine tail p hp ⟨b01_ne c14, ?_, ?_, ?_⟩
              · intro q; first | exact absurd q c18 | exact b01_ne c28
              · intro q; first | exact absurd q c33 | exact b01_ne c42
              · intro q; first | exact absurd q c47 | exact b01_ne c55
            · skip
              refine V_aload_n d_md_step_50 rfl rfl ?_
              refine V_iload_n d_md_step_51 rfl rfl ?_
              refine V_callV (N := md_isShape) d_md_step_52 ml_md_118 mdf_md_isShape wi_md_isShape wz_md_isShape (sp_md_isShape G r _) r.obj ⟨_, rfl, rfl⟩ rfl rfl (by decide) (by decide) (Nat.le_of_ble_eq_true rfl) rfl rfl (kI fun r52 h52 ⟨e52, f52⟩ => ?_)
              subst e52 f52
              refine V_if_ne d_md_step_55 (fun c55 => ?_) (fun c55 => ?_)
              · skip
                refine tail p hp ⟨b01_ne c14, ?_, ?_, ?_⟩
                · intro q; first | exact absurd q c18 | exact b01_ne c28
                · intro q; first | exact absurd q c33 | exact b01_ne c42
                · intro q; first | exact absurd q c47 | exact b01_ne c55
              · skip
                refine V_bipush (v := -2) d_md_step_58 (by decide) ?_
                refine V_ireturn d_md_step_60 rfl ?_
                refine ⟨_, rfl, Or.inl ⟨?_, rfl, rfl⟩⟩
                rintro ⟨-, -, q0, q1, q4⟩
                first | exact b01_e c28 (q0 c18) | exact b01_e c42 (q1 c33) | exact b01_e c55 (q4 c47)
          · skip
            refine V_iload_n d_md_step_36 rfl rfl ?_
            refine V_iconst (v := 0) d_md_step_37 (by decide) ?_
            refine V_iconst (v := 5) d_md_step_38 (by decide) ?_
            refine V_callS (N := md_in) d_md_step_39 ml_md_114 mdf_md_in ws_md_in (sp_md_in G _ _ _ _) rfl rfl (by decide) (by decide) (Nat.le_of_ble_eq_true rfl) rfl rfl (kI fun r39 h39 ⟨e39, f39⟩ => ?_)
            subst e39 f39
            refine V_if_eq d_md_step_42 (fun c42 => ?_) (fun c42 => ?_)
            · skip
              refine V_bipush (v := -2) d_md_step_58 (by decide) ?_
              refine V_ireturn d_md_step_60 rfl ?_
              refine ⟨_, rfl, Or.inl ⟨?_, rfl, rfl⟩⟩
              rintro ⟨-, -, q0, q1, q4⟩
              first | exact b01_e c28 (q0 c18) | exact b01_e c42 (q1 c33) | exact b01_e c55 (q4 c47)
            · skip
              refine V_iload_n d_md_step_45 rfl rfl ?_
              refine V_iconst (v := 4) d_md_step_46 (by decide) ?_
              refine V_icmp_ne d_md_step_47 (fun c47 => ?_) (fun c47 => ?_)
              · skip
                refine tail p hp ⟨b01_ne c14, ?_, ?_, ?_⟩
                · intro q; first | exact absurd q c18 | exact b01_ne c28
                · intro q; first | exact absurd q c33 | exact b01_ne c42
                · intro q; first | exact absurd q c47 | exact b01_ne c55
              · skip
                refine V_aload_n d_md_step_50 rfl rfl ?_
                refine V_iload_n d_md_step_51 rfl rfl ?_
                refine V_callV (N := md_isShape) d_md_step_52 ml_md_118 mdf_md_isShape wi_md_isShape wz_md_isShape (sp_md_isShape G r _) r.obj ⟨_, rfl, rfl⟩ rfl rfl (by decide) (by decide) (Nat.le_of_ble_eq_true rfl) rfl rfl (kI fun r52 h52 ⟨e52, f52⟩ => ?_)
                subst e52 f52
                refine V_if_ne d_md_step_55 (fun c55 => ?_) (fun c55 => ?_)
                · skip
                  refine tail p hp ⟨b01_ne c14, ?_, ?_, ?_⟩
                  · intro q; first | exact absurd q c18 | exact b01_ne c28
                  · intro q; first | exact absurd q c33 | exact b01_ne c42
                  · intro q; first | exact absurd q c47 | exact b01_ne c55
                · skip
                  refine V_bipush (v := -2) d_md_step_58 (by decide) ?_
                  refine V_ireturn d_md_step_60 rfl ?_
                  refine ⟨_, rfl, Or.inl ⟨?_, rfl, rfl⟩⟩
                  rintro ⟨-, -, q0, q1, q4⟩
                  first | exact b01_e c28 (q0 c18) | exact b01_e c42 (q1 c33) | exact b01_e c55 (q4 c47)
/-- fault: what a path stands at (1 an object, 2 a list, 0 a number), of which shape -/
def stands (s : Mem) (st : Int32) (x : Nat) (k n : Int32) : Prop := if k = 0 then st = 1 ∧ inF s x n else if k = 4 then st = 1 ∧ isOf s n (nI x) = true else st = 2
def nxSt (s : Mem) (x : Nat) (k n : Int32) : Int32 := if k = 0 then (if s.2 3 (8 * x + n.toNatClampNeg) = 3 then 0 else s.2 3 (8 * x + n.toNatClampNeg)) else 1
def nxSh (s : Mem) (x : Nat) (k n : Int32) : Nat := if k = 0 then (if nxSt s x k n = 0 then x else (s.2 4 (8 * x + n.toNatClampNeg)).toNatClampNeg) else if k = 4 then n.toNatClampNeg else x
noncomputable def fltF (s : Mem) (p : Nat) : Nat → Nat → Int32 → Nat → Int32
  | 0, _, _, _ => -1
  | n + 1, i, st, x => @ite _ (stands s st x (s.2 35 (5 * p + i)) (s.2 36 (5 * p + i))) (Classical.propDecidable _) (fltF s p n (i + 1) (nxSt s x (s.2 35 (5 * p + i)) (s.2 36 (5 * p + i))) (nxSh s x (s.2 35 (5 * p + i)) (s.2 36 (5 * p + i)))) (nI i)
theorem lp_fault (G : Gk) {h : Hp} {m : Nat} {am : Nat → Nat} {s : Mem} (r : RepM h m am s) (ivs : IvS s) (ivf : IvF s) (ivp : IvP s) (p : Nat) (hp : p < nP s) (x0 : Int32) (R : Int32) : ∀ (n i : Nat) (st : Int32) (x : Nat) (l6 l7 l8 l9 : Option Value), i + n = sp s p → x < nS s → R = fltF s p n i st x →
    V G md_fault (pI fun r h' => h = h' ∧ r = R) h 0 0 27 [some (.ref m), some (.int (nI p)), some (.int x0), some (.int st), some (.int (nI x)), some (.int (nI i)), l6, l7, l8, l9] [] := by
  obtain ⟨h33, h16, hst⟩ := id ivp
  have h10 := ivs.2.1
  obtain ⟨h34, h5, hok⟩ := hst p hp
  intro n
  induction n with
  | zero =>
    intro i st x l6 l7 l8 l9 h1 hx hR
    refine V_iload d_md_fault_27 rfl ?_
    refine V_aload_n d_md_fault_29 rfl rfl ?_
    refine V_getf d_md_fault_30 fl_md_83 r.obj rfl ?_
    refine V_iload_n d_md_fault_33 rfl rfl ?_
    refine V_mald r d_md_fault_34 (by first | with_reducible rfl | exact ix8 _ _ | exact ix6 _ _ | assumption) rfl rfl (by show _ < 16; omega) ?_
    rw [h34]
    refine V_icmp_ge d_md_fault_35 (fun c35 => ?_) (fun c35 => ?_)
    · skip
      refine V_iconst (v := -1) d_md_fault_232 (by decide) ?_
      refine V_ireturn d_md_fault_233 rfl ?_
      exact ⟨_, rfl, rfl, hR.symm⟩
    · skip
      exact absurd (ltN c35 (by omega)) (by omega)
  | succ n ih =>
    intro i st x l6 l7 l8 l9 h1 hx hR
    obtain ⟨hk4, hk0, hk1, hkS⟩ := hok i (by omega)
    have tailN : ∀ (k nn b : Int32) (l9 : Option Value), s.2 35 (5 * p + i) = k → s.2 36 (5 * p + i) = nn → b = b01 (stands s st x k nn) → V G md_fault (pI fun r h' => h = h' ∧ r = R) h 0 0 140 [some (.ref m), some (.int (nI p)), some (.int x0), some (.int st), some (.int (nI x)), some (.int (nI i)), some (.int k), some (.int nn), l8, l9] [.int b] := by
      intro k nn b l9 ek en eb
      subst eb
      unfold fltF at hR
      rw [ek, en] at hR hkS
      have tail2 : ∀ (st' : Int32) (x' : Nat) (l8 l9 : Option Value), x' < nS s → stands s st x k nn → st' = nxSt s x k nn → x' = nxSh s x k nn → V G md_fault (pI fun r h' => h = h' ∧ r = R) h 0 0 226 [some (.ref m), some (.int (nI p)), some (.int x0), some (.int st'), some (.int (nI x')), some (.int (nI i)), some (.int k), some (.int nn), l8, l9] [] := by
        intro st' x' l8 l9 hx' hs e1 e2
        rw [if_pos hs, ← e1, ← e2] at hR
        refine V_iinc (v := _) d_md_fault_226 rfl rfl (by decide) rfl rfl ?_
        dsimp only [List.set]
        refine V_goto d_md_fault_229 ?_
        rw [show Int32.ofInt 1 = 1 from rfl, nI_1]
        exact ih (i + 1) st' x' _ _ _ _ (by omega) hx' hR
      refine V_istore d_md_fault_140 (by decide) rfl rfl ?_
      dsimp only [List.set]
      refine V_iload d_md_fault_142 rfl ?_
      refine V_if_ne d_md_fault_144 (fun c144 => ?_) (fun c144 => ?_)
      · skip
        have hs := b01_ne c144
        refine V_iload d_md_fault_150 rfl ?_
        refine V_if_ne d_md_fault_152 (fun c152 => ?_) (fun c152 => ?_)
        · skip
          refine V_iconst (v := 1) d_md_fault_209 (by decide) ?_
          refine V_istore_n d_md_fault_210 rfl (by decide) rfl rfl ?_
          dsimp only [List.set]
          refine V_iload d_md_fault_211 rfl ?_
          refine V_iconst (v := 4) d_md_fault_213 (by decide) ?_
          refine V_icmp_ne d_md_fault_214 (fun c214 => ?_) (fun c214 => ?_)
          · skip
            refine V_iload d_md_fault_222 rfl ?_
            refine V_istore d_md_fault_224 (by decide) rfl rfl ?_
            dsimp only [List.set]
            exact tail2 1 x _ _ hx hs (by simp [nxSt, c152]) (by simp [nxSh, c152, c214])
          · skip
            refine V_iload d_md_fault_217 rfl ?_
            refine V_goto d_md_fault_219 ?_
            refine V_istore d_md_fault_224 (by decide) rfl rfl ?_
            dsimp only [List.set]
            obtain ⟨t, ht, rfl⟩ := isSh.ix ivs (hkS c214)
            exact tail2 1 t _ _ ht hs (by simp [nxSt, c152]) (by simp [nxSh, c214, cl t (by omega)])
        · skip
          subst c152
          have hs0 := hs
          obtain ⟨-, hin⟩ : st = 1 ∧ inF s x nn := hs0
          obtain ⟨j, hj, rfl⟩ := inF.ix ivs hx hin
          have hf8 := (ivs.2.2.1 x hx).2
          have cj := cl j (by omega)
          refine V_bipush (v := 8) d_md_fault_155 (by decide) ?_
          refine V_iload d_md_fault_157 rfl ?_
          refine V_imul d_md_fault_159 ?_
          refine V_iload d_md_fault_160 rfl ?_
          refine V_iadd d_md_fault_162 ?_
          rw [ix8]
          refine V_istore d_md_fault_163 (by decide) rfl rfl ?_
          dsimp only [List.set]
          refine V_aload_n d_md_fault_165 rfl rfl ?_
          refine V_getf d_md_fault_166 fl_md_16 r.obj rfl ?_
          refine V_iload d_md_fault_169 rfl ?_
          refine V_mald r d_md_fault_171 (by first | with_reducible rfl | exact ix8 _ _ | exact ix6 _ _ | assumption) rfl rfl (by show _ < 80; omega) ?_
          refine V_iconst (v := 3) d_md_fault_172 (by decide) ?_
          refine V_icmp_ne d_md_fault_173 (fun c173 => ?_) (fun c173 => ?_)
          · skip
            refine V_aload_n d_md_fault_180 rfl rfl ?_
            refine V_getf d_md_fault_181 fl_md_16 r.obj rfl ?_
            refine V_iload d_md_fault_184 rfl ?_
            refine V_mald r d_md_fault_186 (by first | with_reducible rfl | exact ix8 _ _ | exact ix6 _ _ | assumption) rfl rfl (by show _ < 80; omega) ?_
            refine V_istore_n d_md_fault_187 rfl (by decide) rfl rfl ?_
            dsimp only [List.set]
            refine V_iload_n d_md_fault_188 rfl rfl ?_
            refine V_if_ne d_md_fault_189 (fun c189 => ?_) (fun c189 => ?_)
            · skip
              refine V_aload_n d_md_fault_197 rfl rfl ?_
              refine V_getf d_md_fault_198 fl_md_19 r.obj rfl ?_
              refine V_iload d_md_fault_201 rfl ?_
              refine V_mald r d_md_fault_203 (by first | with_reducible rfl | exact ix8 _ _ | exact ix6 _ _ | assumption) rfl rfl (by show _ < 80; omega) ?_
              refine V_istore d_md_fault_204 (by decide) rfl rfl ?_
              dsimp only [List.set]
              refine V_goto d_md_fault_206 ?_
              obtain ⟨t, ht, htt⟩ : ∃ t, t < nS s ∧ s.2 4 (8 * x + j) = nI t := (ivf x hx j hj).elim (fun q => absurd q c189) (fun q => q.elim (fun q => q.2) (fun q => absurd q.1 c173))
              rw [htt]
              exact tail2 _ t _ _ ht hs (by simp [nxSt, cj, c173]) (by simp [nxSh, nxSt, cj, c173, c189, htt, cl t (by omega)])
            · skip
              refine V_iload d_md_fault_192 rfl ?_
              refine V_goto d_md_fault_194 ?_
              refine V_istore d_md_fault_204 (by decide) rfl rfl ?_
              dsimp only [List.set]
              refine V_goto d_md_fault_206 ?_
              exact tail2 _ x _ _ hx hs (by simp [nxSt, cj, c173]) (by simp [nxSh, nxSt, cj, c173, c189])
          · skip
            refine V_iconst (v := 0) d_md_fault_176 (by decide) ?_
            refine V_goto d_md_fault_177 ?_
            refine V_istore_n d_md_fault_187 rfl (by decide) rfl rfl ?_
            dsimp only [List.set]
            refine V_iload_n d_md_fault_188 rfl rfl ?_
            refine V_if_ne d_md_fault_189 (fun c189 => ?_) (fun c189 => ?_)
            · skip
              refine V_aload_n d_md_fault_197 rfl rfl ?_
              refine V_getf d_md_fault_198 fl_md_19 r.obj rfl ?_
              refine V_iload d_md_fault_201 rfl ?_
              refine V_mald r d_md_fault_203 (by first | with_reducible rfl | exact ix8 _ _ | exact ix6 _ _ | assumption) rfl rfl (by show _ < 80; omega) ?_
              refine V_istore d_md_fault_204 (by decide) rfl rfl ?_
              dsimp only [List.set]
              refine V_goto d_md_fault_206 ?_
              exact absurd rfl c189
            · skip
              refine V_iload d_md_fault_192 rfl ?_
              refine V_goto d_md_fault_194 ?_
              refine V_istore d_md_fault_204 (by decide) rfl rfl ?_
              dsimp only [List.set]
              refine V_goto d_md_fault_206 ?_
              exact tail2 _ x _ _ hx hs (by simp [nxSt, cj, c173]) (by simp [nxSh, nxSt, cj, c173])
      · skip
        refine V_iload d_md_fault_147 rfl ?_
        refine V_ireturn d_md_fault_149 rfl ?_
        rw [if_neg (b01_e c144)] at hR
        exact ⟨_, rfl, rfl, hR.symm⟩
    refine V_iload d_md_fault_27 rfl ?_
    refine V_aload_n d_md_fault_29 rfl rfl ?_
    refine V_getf d_md_fault_30 fl_md_83 r.obj rfl ?_
    refine V_iload_n d_md_fault_33 rfl rfl ?_
    refine V_mald r d_md_fault_34 (by first | with_reducible rfl | exact ix8 _ _ | exact ix6 _ _ | assumption) rfl rfl (by show _ < 16; omega) ?_
    rw [h34]
    refine V_icmp_ge d_md_fault_35 (fun c35 => ?_) (fun c35 => ?_)
    · skip
      exact absurd (geN c35 (by omega)) (by omega)
    · skip
      refine V_aload_n d_md_fault_38 rfl rfl ?_
      refine V_getf d_md_fault_39 fl_md_86 r.obj rfl ?_
      refine V_iconst (v := 5) d_md_fault_42 (by decide) ?_
      refine V_iload_n d_md_fault_43 rfl rfl ?_
      refine V_imul d_md_fault_44 ?_
      refine V_iload d_md_fault_45 rfl ?_
      refine V_iadd d_md_fault_47 ?_
      rw [ix5]
      refine V_mald r d_md_fault_48 (by first | with_reducible rfl | exact ix8 _ _ | exact ix6 _ _ | assumption) rfl rfl (by show _ < 80; omega) ?_
      refine V_istore d_md_fault_49 (by decide) rfl rfl ?_
      dsimp only [List.set]
      refine V_aload_n d_md_fault_51 rfl rfl ?_
      refine V_getf d_md_fault_52 fl_md_89 r.obj rfl ?_
      refine V_iconst (v := 5) d_md_fault_55 (by decide) ?_
      refine V_iload_n d_md_fault_56 rfl rfl ?_
      refine V_imul d_md_fault_57 ?_
      refine V_iload d_md_fault_58 rfl ?_
      refine V_iadd d_md_fault_60 ?_
      rw [ix5]
      refine V_mald r d_md_fault_61 (by first | with_reducible rfl | exact ix8 _ _ | exact ix6 _ _ | assumption) rfl rfl (by show _ < 80; omega) ?_
      refine V_istore d_md_fault_62 (by decide) rfl rfl ?_
      dsimp only [List.set]
      refine V_iload d_md_fault_64 rfl ?_
      refine V_if_ne d_md_fault_66 (fun c66 => ?_) (fun c66 => ?_)
      · skip
        refine V_iload d_md_fault_100 rfl ?_
        refine V_iconst (v := 4) d_md_fault_102 (by decide) ?_
        refine V_icmp_ne d_md_fault_103 (fun c103 => ?_) (fun c103 => ?_)
        · skip
          refine V_iload_n d_md_fault_130 rfl rfl ?_
          refine V_iconst (v := 2) d_md_fault_131 (by decide) ?_
          refine V_icmp_ne d_md_fault_132 (fun c132 => ?_) (fun c132 => ?_)
          · skip
            refine V_iconst (v := 0) d_md_fault_139 (by decide) ?_
            exact tailN _ _ _ _ rfl rfl (b01_f (fun q => by rw [stands, if_neg c66, if_neg c103] at q; exact c132 q)).symm
          · skip
            refine V_iconst (v := 1) d_md_fault_135 (by decide) ?_
            refine V_goto d_md_fault_136 ?_
            exact tailN _ _ _ _ rfl rfl (b01_t (by rw [stands, if_neg c66, if_neg c103]; exact c132)).symm
        · skip
          refine V_iload_n d_md_fault_106 rfl rfl ?_
          refine V_iconst (v := 1) d_md_fault_107 (by decide) ?_
          refine V_icmp_ne d_md_fault_108 (fun c108 => ?_) (fun c108 => ?_)
          · skip
            refine V_iconst (v := 0) d_md_fault_126 (by decide) ?_
            refine V_goto d_md_fault_127 ?_
            exact tailN _ _ _ _ rfl rfl (b01_f (fun q => by rw [stands, if_neg c66, if_pos c103] at q; exact c108 q.1)).symm
          · skip
            refine V_aload_n d_md_fault_111 rfl rfl ?_
            refine V_iload d_md_fault_112 rfl ?_
            refine V_iload d_md_fault_114 rfl ?_
            refine V_callV (N := md_isOf) d_md_fault_116 ml_md_191 mdf_md_isOf wi_md_isOf wz_md_isOf (sp_md_isOf G r ivs _ _ (Or.inr (by obtain ⟨t, ht, e⟩ := isSh.ix ivs (hkS c103); exact ⟨t, ht, e⟩))) r.obj ⟨_, rfl, rfl⟩ rfl rfl (by decide) (by decide) (Nat.le_of_ble_eq_true rfl) rfl rfl (kI fun r116 h116 ⟨e116, f116⟩ => ?_)
            subst e116 f116
            refine V_if_eq d_md_fault_119 (fun c119 => ?_) (fun c119 => ?_)
            · skip
              refine V_iconst (v := 0) d_md_fault_126 (by decide) ?_
              refine V_goto d_md_fault_127 ?_
              exact tailN _ _ _ _ rfl rfl (b01_f (fun q => by rw [stands, if_neg c66, if_pos c103] at q; exact b01_e c119 q.2)).symm
            · skip
              refine V_iconst (v := 1) d_md_fault_122 (by decide) ?_
              refine V_goto d_md_fault_123 ?_
              exact tailN _ _ _ _ rfl rfl (b01_t (by rw [stands, if_neg c66, if_pos c103]; exact ⟨c108, b01_ne c119⟩)).symm
      · skip
        refine V_iload_n d_md_fault_69 rfl rfl ?_
        refine V_iconst (v := 1) d_md_fault_70 (by decide) ?_
        refine V_icmp_ne d_md_fault_71 (fun c71 => ?_) (fun c71 => ?_)
        · skip
          refine V_iconst (v := 0) d_md_fault_96 (by decide) ?_
          refine V_goto d_md_fault_97 ?_
          exact tailN _ _ _ _ rfl rfl (b01_f (fun q => by rw [stands, if_pos c66] at q; exact c71 q.1)).symm
        · skip
          refine V_iload d_md_fault_74 rfl ?_
          refine V_iconst (v := 0) d_md_fault_76 (by decide) ?_
          refine V_aload_n d_md_fault_77 rfl rfl ?_
          refine V_getf d_md_fault_78 fl_md_13 r.obj rfl ?_
          refine V_iload d_md_fault_81 rfl ?_
          refine V_mald r d_md_fault_83 (by first | with_reducible rfl | exact ix8 _ _ | exact ix6 _ _ | assumption) rfl rfl (by show _ < 10; omega) ?_
          refine V_iconst (v := 1) d_md_fault_84 (by decide) ?_
          refine V_isub d_md_fault_85 ?_
          refine V_callS (N := md_in) d_md_fault_86 ml_md_114 mdf_md_in ws_md_in (sp_md_in G _ _ _ _) rfl rfl (by decide) (by decide) (Nat.le_of_ble_eq_true rfl) rfl rfl (kI fun r86 h86 ⟨e86, f86⟩ => ?_)
          subst e86 f86
          refine V_if_eq d_md_fault_89 (fun c89 => ?_) (fun c89 => ?_)
          · skip
            refine V_iconst (v := 0) d_md_fault_96 (by decide) ?_
            refine V_goto d_md_fault_97 ?_
            exact tailN _ _ _ _ rfl rfl (b01_f (fun q => by rw [stands, if_pos c66] at q; exact b01_e c89 q.2)).symm
          · skip
            refine V_iconst (v := 1) d_md_fault_92 (by decide) ?_
            refine V_goto d_md_fault_93 ?_
            exact tailN _ _ _ _ rfl rfl (b01_t (by rw [stands, if_pos c66]; exact ⟨c71, b01_ne c89⟩)).symm
theorem sp_md_fault (G : Gk) {h : Hp} {m : Nat} {am : Nat → Nat} {s : Mem} (r : RepM h m am s) (ivs : IvS s) (ivf : IvF s) (ivp : IvP s) (v x : Int32) : Ct G md_fault [.ref m, .int v, .int x] h
    (pI fun r h' => h = h' ∧ ((¬ (isPa s v ∧ isSh s x) ∧ r = -2) ∨ ∃ p i, p < nP s ∧ v = nI p ∧ i < nS s ∧ x = nI i ∧ r = fltF s p (sp s p) 0 1 i)) := by
  refine Ct.ofL (M := md_fault) (lv := [some (.ref m), some (.int v), some (.int x), none, none, none, none, none, none, none]) mdf_md_fault rfl (Nat.le_of_ble_eq_true rfl) rfl ?_
  refine V_aload_n d_md_fault_0 rfl rfl ?_
  refine V_iload_n d_md_fault_1 rfl rfl ?_
  refine V_callV (N := md_isPath) d_md_fault_2 ml_md_260 mdf_md_isPath wi_md_isPath wz_md_isPath (sp_md_isPath G r _) r.obj ⟨_, rfl, rfl⟩ rfl rfl (by decide) (by decide) (Nat.le_of_ble_eq_true rfl) rfl rfl (kI fun r2 h2 ⟨e2, f2⟩ => ?_)
  subst e2 f2
  refine V_if_eq d_md_fault_5 (fun c5 => ?_) (fun c5 => ?_)
  · skip
    refine V_bipush (v := -2) d_md_fault_16 (by decide) ?_
    refine V_ireturn d_md_fault_18 rfl ?_
    exact ⟨_, rfl, rfl, Or.inl ⟨fun q => b01_e c5 q.1, rfl⟩⟩
  · skip
    refine V_aload_n d_md_fault_8 rfl rfl ?_
    refine V_iload_n d_md_fault_9 rfl rfl ?_
    refine V_callV (N := md_isShape) d_md_fault_10 ml_md_118 mdf_md_isShape wi_md_isShape wz_md_isShape (sp_md_isShape G r _) r.obj ⟨_, rfl, rfl⟩ rfl rfl (by decide) (by decide) (Nat.le_of_ble_eq_true rfl) rfl rfl (kI fun r10 h10 ⟨e10, f10⟩ => ?_)
    subst e10 f10
    refine V_if_ne d_md_fault_13 (fun c13 => ?_) (fun c13 => ?_)
    · skip
      refine V_iconst (v := 1) d_md_fault_19 (by decide) ?_
      refine V_istore_n d_md_fault_20 rfl (by decide) rfl rfl ?_
      dsimp only [List.set]
      refine V_iload_n d_md_fault_21 rfl rfl ?_
      refine V_istore d_md_fault_22 (by decide) rfl rfl ?_
      dsimp only [List.set]
      refine V_iconst (v := 0) d_md_fault_24 (by decide) ?_
      refine V_istore d_md_fault_25 (by decide) rfl rfl ?_
      dsimp only [List.set]
      obtain ⟨p, hp, rfl⟩ := isPa.ix ivp (b01_ne c5)
      obtain ⟨i, hi, rfl⟩ := isSh.ix ivs (b01_ne c13)
      refine V.mono (lp_fault G r ivs ivf ivp p hp (nI i) _ (sp s p) 0 1 i none none none none (by omega) hi rfl) (fun v' h' q => ?_)
      obtain ⟨r', q1, q2, q3⟩ := q
      exact ⟨r', q1, q2, Or.inr ⟨p, i, hp, rfl, hi, rfl, q3⟩⟩
    · skip
      refine V_bipush (v := -2) d_md_fault_16 (by decide) ?_
      refine V_ireturn d_md_fault_18 rfl ?_
      exact ⟨_, rfl, rfl, Or.inl ⟨fun q => b01_e c13 q.2, rfl⟩⟩
