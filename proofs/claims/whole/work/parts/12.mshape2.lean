/-! the reference's shapes, second half: derived, told, shape -/
theorem sp_md_derived (G : Gk) {h : Hp} {m : Nat} {am : Nat → Nat} {s : Mem} (r : RepM h m am s) (ivs : IvS s) (ivo : IvO s) (ivf : IvF s) (v c f g : Int32) : Ct G md_derived [.ref m, .int v, .int c, .int f, .int g] h
    (pI fun r h' => (¬ (∃ i, i < nS s ∧ v = nI i ∧ mayF s i c f g) ∧ h = h' ∧ r = -2) ∨ (∃ i, i < nS s ∧ v = nI i ∧ mayF s i c f g ∧ ((agst s i ≠ 0 ∧ h = h' ∧ r = agst s i) ∨ (agst s i = 0 ∧ Mod h m am h' (addM s i 3 c f g 0) ∧ r = nI (nf s i))))) := by
  have h10 := ivs.2.1
  refine Ct.ofL (M := md_derived) (lv := [some (.ref m), some (.int v), some (.int c), some (.int f), some (.int g)]) mdf_md_derived rfl (Nat.le_of_ble_eq_true rfl) rfl ?_
  refine V_aload_n d_md_derived_0 rfl rfl ?_
  refine V_iload_n d_md_derived_1 rfl rfl ?_
  refine V_callV (N := md_isShape) d_md_derived_2 ml_md_118 mdf_md_isShape wi_md_isShape wz_md_isShape (sp_md_isShape G r _) r.obj ⟨_, rfl, rfl⟩ rfl rfl (by decide) (by decide) (Nat.le_of_ble_eq_true rfl) rfl rfl (kI fun r2 h2 ⟨e2, f2⟩ => ?_)
  subst e2 f2
  refine V_if_eq d_md_derived_5 (fun c5 => ?_) (fun c5 => ?_)
  · skip
    refine V_bipush (v := -2) d_md_derived_20 (by decide) ?_
    refine V_goto d_md_derived_22 ?_
    refine V_ireturn d_md_derived_36 rfl ?_
    refine ⟨_, rfl, Or.inl ⟨?_, rfl, rfl⟩⟩
    rintro ⟨i, q1, q2, -⟩
    exact isSh.no ivs (b01_e c5) i q1 q2
  · skip
    obtain ⟨i, hi, rfl⟩ := isSh.ix ivs (b01_ne c5)
    refine V_aload_n d_md_derived_8 rfl rfl ?_
    refine V_iload_n d_md_derived_9 rfl rfl ?_
    refine V_iload_n d_md_derived_10 rfl rfl ?_
    refine V_iload_n d_md_derived_11 rfl rfl ?_
    refine V_iload d_md_derived_12 rfl ?_
    refine V_callV (N := md_mayFollow) d_md_derived_14 ml_md_145 mdf_md_mayFollow wi_md_mayFollow wz_md_mayFollow (sp_md_mayFollow G r ivs ivf i hi _ _ _) r.obj ⟨_, rfl, rfl⟩ rfl rfl (by decide) (by decide) (Nat.le_of_ble_eq_true rfl) rfl rfl (kI fun r14 h14 ⟨e14, f14⟩ => ?_)
    subst e14 f14
    refine V_if_ne d_md_derived_17 (fun c17 => ?_) (fun c17 => ?_)
    · skip
      refine V_aload_n d_md_derived_25 rfl rfl ?_
      refine V_iload_n d_md_derived_26 rfl rfl ?_
      refine V_iconst (v := 3) d_md_derived_27 (by decide) ?_
      refine V_iload_n d_md_derived_28 rfl rfl ?_
      refine V_iload_n d_md_derived_29 rfl rfl ?_
      refine V_iload d_md_derived_30 rfl ?_
      refine V_iconst (v := 0) d_md_derived_32 (by decide) ?_
      refine V_callV (N := md_adds) d_md_derived_33 ml_md_134 mdf_md_adds wi_md_adds wz_md_adds (sp_md_adds G r ivs ivo i hi _ _ _ _ _) r.obj ⟨_, rfl, rfl⟩ rfl rfl (by decide) (by decide) (Nat.le_of_ble_eq_true rfl) rfl rfl (kI fun r33 h33 hp33 => ?_)
      refine V_ireturn d_md_derived_36 rfl ?_
      exact ⟨_, rfl, Or.inr ⟨i, hi, rfl, b01_ne c17, hp33⟩⟩
    · skip
      refine V_bipush (v := -2) d_md_derived_20 (by decide) ?_
      refine V_goto d_md_derived_22 ?_
      refine V_ireturn d_md_derived_36 rfl ?_
      refine ⟨_, rfl, Or.inl ⟨?_, rfl, rfl⟩⟩
      rintro ⟨i2, q1, q2, q3⟩
      obtain rfl := nI_inj8 (by omega) (by omega) q2
      exact b01_e c17 q3
/-- told(v, f, w) -/
noncomputable def toldM (s : Mem) (v f w : Int32) : Int32 := @ite _ (isSh s v ∧ 0 ≤ w ∧ w ≤ 3) (Classical.propDecidable _) (@ite _ (inF s v.toNatClampNeg f) (Classical.propDecidable _) (if w = 0 then s.2 3 (8 * v.toNatClampNeg + f.toNatClampNeg) else if w = 1 then s.2 4 (8 * v.toNatClampNeg + f.toNatClampNeg) else if w = 2 then s.2 5 (8 * v.toNatClampNeg + f.toNatClampNeg) else s.2 7 (8 * v.toNatClampNeg + f.toNatClampNeg)) (-1)) (-2)
theorem cl (n : Nat) (h : n < 1000000) : (nI n).toNatClampNeg = n := nI_clamp (by omega)
theorem sp_md_told (G : Gk) {h : Hp} {m : Nat} {am : Nat → Nat} {s : Mem} (r : RepM h m am s) (ivs : IvS s) (v f w : Int32) : Ct G md_told [.ref m, .int v, .int f, .int w] h (pI fun r h' => h = h' ∧ r = toldM s v f w) := by
  have h10 := ivs.2.1
  refine Ct.ofL (M := md_told) (lv := [some (.ref m), some (.int v), some (.int f), some (.int w), none]) mdf_md_told rfl (Nat.le_of_ble_eq_true rfl) rfl ?_
  refine V_aload_n d_md_told_0 rfl rfl ?_
  refine V_iload_n d_md_told_1 rfl rfl ?_
  refine V_callV (N := md_isShape) d_md_told_2 ml_md_118 mdf_md_isShape wi_md_isShape wz_md_isShape (sp_md_isShape G r _) r.obj ⟨_, rfl, rfl⟩ rfl rfl (by decide) (by decide) (Nat.le_of_ble_eq_true rfl) rfl rfl (kI fun r2 h2 ⟨e2, f2⟩ => ?_)
  subst e2 f2
  refine V_if_eq d_md_told_5 (fun c5 => ?_) (fun c5 => ?_)
  · skip
    refine V_bipush (v := -2) d_md_told_17 (by decide) ?_
    refine V_ireturn d_md_told_19 rfl ?_
    refine ⟨_, rfl, rfl, ?_⟩
    rw [toldM, if_neg (fun q => b01_e c5 q.1)]
  · skip
    refine V_iload_n d_md_told_8 rfl rfl ?_
    refine V_iconst (v := 0) d_md_told_9 (by decide) ?_
    refine V_iconst (v := 3) d_md_told_10 (by decide) ?_
    refine V_callS (N := md_in) d_md_told_11 ml_md_114 mdf_md_in ws_md_in (sp_md_in G _ _ _ _) rfl rfl (by decide) (by decide) (Nat.le_of_ble_eq_true rfl) rfl rfl (kI fun r11 h11 ⟨e11, f11⟩ => ?_)
    subst e11 f11
    refine V_if_ne d_md_told_14 (fun c14 => ?_) (fun c14 => ?_)
    · skip
      have hsv := b01_ne c5
      have hw := b01_ne c14
      obtain ⟨i, hi, rfl⟩ := isSh.ix ivs (b01_ne c5)
      obtain ⟨hf1, hf2⟩ := ivs.2.2.1 i hi
      have ci := cl i (by omega)
      refine V_iload_n d_md_told_20 rfl rfl ?_
      refine V_iconst (v := 0) d_md_told_21 (by decide) ?_
      refine V_aload_n d_md_told_22 rfl rfl ?_
      refine V_getf d_md_told_23 fl_md_13 r.obj rfl ?_
      refine V_iload_n d_md_told_26 rfl rfl ?_
      refine V_mald r d_md_told_27 (by first | with_reducible rfl | exact ix8 _ _ | exact ix6 _ _ | assumption) rfl rfl (by show _ < 10; omega) ?_
      refine V_iconst (v := 1) d_md_told_28 (by decide) ?_
      refine V_isub d_md_told_29 ?_
      refine V_callS (N := md_in) d_md_told_30 ml_md_114 mdf_md_in ws_md_in (sp_md_in G _ _ _ _) rfl rfl (by decide) (by decide) (Nat.le_of_ble_eq_true rfl) rfl rfl (kI fun r30 h30 ⟨e30, f30⟩ => ?_)
      subst e30 f30
      refine V_if_ne d_md_told_33 (fun c33 => ?_) (fun c33 => ?_)
      · skip
        have hif := b01_ne c33
        obtain ⟨j, hj, rfl⟩ := inF.ix ivs hi (b01_ne c33)
        have cj := cl j (by omega)
        refine V_bipush (v := 8) d_md_told_38 (by decide) ?_
        refine V_iload_n d_md_told_40 rfl rfl ?_
        refine V_imul d_md_told_41 ?_
        refine V_iload_n d_md_told_42 rfl rfl ?_
        refine V_iadd d_md_told_43 ?_
        refine V_istore d_md_told_44 (by decide) rfl rfl ?_
        dsimp only [List.set]
        refine V_iload_n d_md_told_46 rfl rfl ?_
        refine V_if_ne d_md_told_47 (fun c47 => ?_) (fun c47 => ?_)
        · skip
          refine V_iload_n d_md_told_60 rfl rfl ?_
          refine V_iconst (v := 1) d_md_told_61 (by decide) ?_
          refine V_icmp_ne d_md_told_62 (fun c62 => ?_) (fun c62 => ?_)
          · skip
            refine V_iload_n d_md_told_75 rfl rfl ?_
            refine V_iconst (v := 2) d_md_told_76 (by decide) ?_
            refine V_icmp_ne d_md_told_77 (fun c77 => ?_) (fun c77 => ?_)
            · skip
              refine V_aload_n d_md_told_90 rfl rfl ?_
              refine V_getf d_md_told_91 fl_md_28 r.obj rfl ?_
              refine V_iload d_md_told_94 rfl ?_
              refine V_mald r d_md_told_96 (by first | with_reducible rfl | exact ix8 _ _ | exact ix6 _ _ | assumption) rfl rfl (by show _ < 80; omega) ?_
              refine V_ireturn d_md_told_97 rfl ?_
              refine ⟨_, rfl, rfl, ?_⟩
              rw [toldM, if_pos ⟨hsv, hw⟩, ci, if_pos hif, cj]
              simp [*]
            · skip
              refine V_aload_n d_md_told_80 rfl rfl ?_
              refine V_getf d_md_told_81 fl_md_22 r.obj rfl ?_
              refine V_iload d_md_told_84 rfl ?_
              refine V_mald r d_md_told_86 (by first | with_reducible rfl | exact ix8 _ _ | exact ix6 _ _ | assumption) rfl rfl (by show _ < 80; omega) ?_
              refine V_goto d_md_told_87 ?_
              refine V_ireturn d_md_told_97 rfl ?_
              refine ⟨_, rfl, rfl, ?_⟩
              rw [toldM, if_pos ⟨hsv, hw⟩, ci, if_pos hif, cj]
              simp [*]
          · skip
            refine V_aload_n d_md_told_65 rfl rfl ?_
            refine V_getf d_md_told_66 fl_md_19 r.obj rfl ?_
            refine V_iload d_md_told_69 rfl ?_
            refine V_mald r d_md_told_71 (by first | with_reducible rfl | exact ix8 _ _ | exact ix6 _ _ | assumption) rfl rfl (by show _ < 80; omega) ?_
            refine V_goto d_md_told_72 ?_
            refine V_ireturn d_md_told_97 rfl ?_
            refine ⟨_, rfl, rfl, ?_⟩
            rw [toldM, if_pos ⟨hsv, hw⟩, ci, if_pos hif, cj]
            simp [*]
        · skip
          refine V_aload_n d_md_told_50 rfl rfl ?_
          refine V_getf d_md_told_51 fl_md_16 r.obj rfl ?_
          refine V_iload d_md_told_54 rfl ?_
          refine V_mald r d_md_told_56 (by first | with_reducible rfl | exact ix8 _ _ | exact ix6 _ _ | assumption) rfl rfl (by show _ < 80; omega) ?_
          refine V_goto d_md_told_57 ?_
          refine V_ireturn d_md_told_97 rfl ?_
          refine ⟨_, rfl, rfl, ?_⟩
          rw [toldM, if_pos ⟨hsv, hw⟩, ci, if_pos hif, cj]
          simp [*]
      · skip
        refine V_iconst (v := -1) d_md_told_36 (by decide) ?_
        refine V_ireturn d_md_told_37 rfl ?_
        refine ⟨_, rfl, rfl, ?_⟩
        rw [toldM, if_pos ⟨hsv, hw⟩, ci, if_neg (b01_e c33)]
    · skip
      refine V_bipush (v := -2) d_md_told_17 (by decide) ?_
      refine V_ireturn d_md_told_19 rfl ?_
      refine ⟨_, rfl, rfl, ?_⟩
      rw [toldM, if_neg (fun q => b01_e c14 q.2)]
/-- the memory with a shape more, below v (number w of it, k fields of it) -/
def shpM (s : Mem) (v : Int32) (n w k f : Nat) (t : Mem) : Prop := t.1 = s.1 ∧ ∀ j i, t.2 j i = if (3 ≤ j ∧ j ≤ 7) ∧ 8 * n ≤ i ∧ i < 8 * n + f then s.2 j (8 * w + (i - 8 * n)) else if j = 1 ∧ i = n then v else if j = 2 ∧ i = n then nI k else s.2 j i
theorem shpM.step {s t : Mem} {v : Int32} {n w k f : Nat} (hw : w < n) (hf : f < k) (hk : k ≤ 8) (h : shpM s v n w k f t) {a b c d e : Int32} (ea : a = t.2 3 (8 * w + f)) (eb : b = t.2 4 (8 * w + f)) (ec : c = t.2 5 (8 * w + f)) (ed : d = t.2 6 (8 * w + f)) (ee : e = t.2 7 (8 * w + f)) :
    shpM s v n w k (f + 1) (mA (mA (mA (mA (mA t 3 (8 * n + f) a) 4 (8 * n + f) b) 5 (8 * n + f) c) 6 (8 * n + f) d) 7 (8 * n + f) e) := by
  obtain ⟨h1, h2⟩ := h
  have key : ∀ j, 3 ≤ j → j ≤ 7 → t.2 j (8 * w + f) = s.2 j (8 * w + f) := by
    intro j g1 g2
    rw [h2, if_neg (by omega), if_neg (by omega), if_neg (by omega)]
  rw [key 3 (by decide) (by decide)] at ea
  rw [key 4 (by decide) (by decide)] at eb
  rw [key 5 (by decide) (by decide)] at ec
  rw [key 6 (by decide) (by decide)] at ed
  rw [key 7 (by decide) (by decide)] at ee
  subst ea eb ec ed ee
  refine ⟨h1, fun j i => ?_⟩
  by_cases hj : 3 ≤ j ∧ j ≤ 7
  · by_cases hi : i = 8 * n + f
    · subst hi
      rw [if_pos ⟨hj, by omega, by omega⟩, show 8 * n + f - 8 * n = f by omega]
      rcases (show j = 3 ∨ j = 4 ∨ j = 5 ∨ j = 6 ∨ j = 7 by omega) with rfl | rfl | rfl | rfl | rfl <;> simp [mA, va_up, upd]
    · have e1 : (mA (mA (mA (mA (mA t 3 (8 * n + f) (s.2 3 (8 * w + f))) 4 (8 * n + f) (s.2 4 (8 * w + f))) 5 (8 * n + f) (s.2 5 (8 * w + f))) 6 (8 * n + f) (s.2 6 (8 * w + f))) 7 (8 * n + f) (s.2 7 (8 * w + f))).2 j i = t.2 j i := by
        rcases (show j = 3 ∨ j = 4 ∨ j = 5 ∨ j = 6 ∨ j = 7 by omega) with rfl | rfl | rfl | rfl | rfl <;> simp [mA, va_up, upd, hi]
      rw [e1, h2]
      by_cases q : (3 ≤ j ∧ j ≤ 7) ∧ 8 * n ≤ i ∧ i < 8 * n + f
      · have q' : (3 ≤ j ∧ j ≤ 7) ∧ 8 * n ≤ i ∧ i < 8 * n + (f + 1) := by omega
        rw [if_pos q, if_pos q']
      · have q' : ¬ ((3 ≤ j ∧ j ≤ 7) ∧ 8 * n ≤ i ∧ i < 8 * n + (f + 1)) := by omega
        rw [if_neg q, if_neg q']
  · have e1 : (mA (mA (mA (mA (mA t 3 (8 * n + f) (s.2 3 (8 * w + f))) 4 (8 * n + f) (s.2 4 (8 * w + f))) 5 (8 * n + f) (s.2 5 (8 * w + f))) 6 (8 * n + f) (s.2 6 (8 * w + f))) 7 (8 * n + f) (s.2 7 (8 * w + f))).2 j i = t.2 j i := by
      simp [mA, va_up, show j ≠ 3 by omega, show j ≠ 4 by omega, show j ≠ 5 by omega, show j ≠ 6 by omega, show j ≠ 7 by omega]
    have q : ¬ ((3 ≤ j ∧ j ≤ 7) ∧ 8 * n ≤ i ∧ i < 8 * n + f) := fun z => hj z.1
    have q' : ¬ ((3 ≤ j ∧ j ≤ 7) ∧ 8 * n ≤ i ∧ i < 8 * n + (f + 1)) := fun z => hj z.1
    rw [e1, h2, if_neg q, if_neg q']
def shpE (s : Mem) (v : Int32) (t : Mem) : Prop := ∃ w k, k ≤ 8 ∧ (v = -1 ∧ k = 0 ∨ w < nS s ∧ v = nI w ∧ k = nf s w) ∧ ∃ t0, shpM s v (nS s) w k k t0 ∧ t = mF t0 0 (nI (nS s + 1))
theorem lp_shape (G : Gk) {m : Nat} {am : Nat → Nat} {s : Mem} {h0 : Hp} (ivs : IvS s) (h9 : nS s < 10) (v : Int32) (w k : Nat) (hk : k ≤ 8) (hv : v = -1 ∧ k = 0 ∨ w < nS s ∧ v = nI w ∧ k = nf s w) : ∀ (n f : Nat) (h : Hp) (t : Mem) (l4 l5 : Option Value), f ≤ k → k + 1 ≤ f + n → Mod h0 m am h t → shpM s v (nS s) w k f t →
    V G md_shape (pI fun r h' => ∃ t, Mod h0 m am h' t ∧ shpE s v t ∧ r = nI (nS s)) h 0 0 63 [some (.ref m), some (.int v), some (.int (nI (nS s))), some (.int (nI f)), l4, l5] [] := by
  intro n
  induction n with
  | zero => intro f h t l4 l5 h1 h2; exact absurd h2 (by omega)
  | succ n ih =>
    intro f h t l4 l5 hf1 hf2 hM hs
    have r := hM.1
    have e2 : t.2 2 (nS s) = nI k := by rw [hs.2, if_neg (by omega), if_neg (by omega), if_pos ⟨rfl, rfl⟩]
    have e0 : t.1 0 = nI (nS s) := by rw [hs.1]; exact ivs.1
    refine V_iload_n d_md_shape_63 rfl rfl ?_
    refine V_aload_n d_md_shape_64 rfl rfl ?_
    refine V_getf d_md_shape_65 fl_md_13 r.obj rfl ?_
    refine V_iload_n d_md_shape_68 rfl rfl ?_
    refine V_mald r d_md_shape_69 (by first | with_reducible rfl | exact ix8 _ _ | exact ix6 _ _ | assumption) rfl rfl (by show _ < 10; omega) ?_
    rw [e2]
    refine V_icmp_ge d_md_shape_70 (fun c70 => ?_) (fun c70 => ?_)
    · skip
      have hfk := geN c70 (by omega)
      obtain rfl : f = k := by omega
      refine V_aload_n d_md_shape_165 rfl rfl ?_
      refine V_dup d_md_shape_166 rfl ?_
      refine V_getf d_md_shape_167 fl_md_110 r.obj rfl ?_
      rw [e0]
      refine V_iconst (v := 1) d_md_shape_170 (by decide) ?_
      refine V_iadd d_md_shape_171 ?_
      rw [nI_1]
      refine V_mput (j := 0) r d_md_shape_172 fp_md_110 rfl rfl (by decide) (fun h172 M172 => ?_)
      have R172 := M172.1
      refine V_iload_n d_md_shape_175 rfl rfl ?_
      refine V_ireturn d_md_shape_176 rfl ?_
      exact ⟨_, rfl, _, hM.trans M172, ⟨w, f, hk, hv, t, hs, rfl⟩, rfl⟩
    · skip
      have hlt := ltN c70 (by omega)
      obtain ⟨hw, rfl, hkn⟩ : w < nS s ∧ v = nI w ∧ k = nf s w := hv.resolve_left (fun q => by omega)
      refine V_bipush (v := 8) d_md_shape_73 (by decide) ?_
      refine V_iload_n d_md_shape_75 rfl rfl ?_
      refine V_imul d_md_shape_76 ?_
      refine V_iload_n d_md_shape_77 rfl rfl ?_
      refine V_iadd d_md_shape_78 ?_
      rw [ix8]
      refine V_istore d_md_shape_79 (by decide) rfl rfl ?_
      dsimp only [List.set]
      refine V_bipush (v := 8) d_md_shape_81 (by decide) ?_
      refine V_iload_n d_md_shape_83 rfl rfl ?_
      refine V_imul d_md_shape_84 ?_
      refine V_iload_n d_md_shape_85 rfl rfl ?_
      refine V_iadd d_md_shape_86 ?_
      rw [ix8]
      refine V_istore d_md_shape_87 (by decide) rfl rfl ?_
      dsimp only [List.set]
      refine V_aload_n d_md_shape_89 rfl rfl ?_
      refine V_getf d_md_shape_90 fl_md_16 r.obj rfl ?_
      refine V_iload d_md_shape_93 rfl ?_
      refine V_aload_n d_md_shape_95 rfl rfl ?_
      refine V_getf d_md_shape_96 fl_md_16 r.obj rfl ?_
      refine V_iload d_md_shape_99 rfl ?_
      refine V_mald r d_md_shape_101 (by first | with_reducible rfl | exact ix8 _ _ | exact ix6 _ _ | assumption) rfl rfl (by show _ < 80; omega) ?_
      refine V_mast r d_md_shape_102 (by first | with_reducible rfl | exact ix8 _ _ | exact ix6 _ _ | assumption) rfl rfl (by show _ < 80; omega) (fun h102 M102 => ?_)
      have R102 := M102.1
      refine V_aload_n d_md_shape_103 rfl rfl ?_
      refine V_getf d_md_shape_104 fl_md_19 R102.obj rfl ?_
      refine V_iload d_md_shape_107 rfl ?_
      refine V_aload_n d_md_shape_109 rfl rfl ?_
      refine V_getf d_md_shape_110 fl_md_19 R102.obj rfl ?_
      refine V_iload d_md_shape_113 rfl ?_
      refine V_mald R102 d_md_shape_115 (by first | with_reducible rfl | exact ix8 _ _ | exact ix6 _ _ | assumption) rfl rfl (by show _ < 80; omega) ?_
      simp (disch := first | decide | omega) only [mA_2s, mA_2n, mA_1, mF_2, mF_1s, mF_1n, pk_us, pk_un]
      refine V_mast R102 d_md_shape_116 (by first | with_reducible rfl | exact ix8 _ _ | exact ix6 _ _ | assumption) rfl rfl (by show _ < 80; omega) (fun h116 M116 => ?_)
      have R116 := M116.1
      refine V_aload_n d_md_shape_117 rfl rfl ?_
      refine V_getf d_md_shape_118 fl_md_22 R116.obj rfl ?_
      refine V_iload d_md_shape_121 rfl ?_
      refine V_aload_n d_md_shape_123 rfl rfl ?_
      refine V_getf d_md_shape_124 fl_md_22 R116.obj rfl ?_
      refine V_iload d_md_shape_127 rfl ?_
      refine V_mald R116 d_md_shape_129 (by first | with_reducible rfl | exact ix8 _ _ | exact ix6 _ _ | assumption) rfl rfl (by show _ < 80; omega) ?_
      simp (disch := first | decide | omega) only [mA_2s, mA_2n, mA_1, mF_2, mF_1s, mF_1n, pk_us, pk_un]
      refine V_mast R116 d_md_shape_130 (by first | with_reducible rfl | exact ix8 _ _ | exact ix6 _ _ | assumption) rfl rfl (by show _ < 80; omega) (fun h130 M130 => ?_)
      have R130 := M130.1
      refine V_aload_n d_md_shape_131 rfl rfl ?_
      refine V_getf d_md_shape_132 fl_md_25 R130.obj rfl ?_
      refine V_iload d_md_shape_135 rfl ?_
      refine V_aload_n d_md_shape_137 rfl rfl ?_
      refine V_getf d_md_shape_138 fl_md_25 R130.obj rfl ?_
      refine V_iload d_md_shape_141 rfl ?_
      refine V_mald R130 d_md_shape_143 (by first | with_reducible rfl | exact ix8 _ _ | exact ix6 _ _ | assumption) rfl rfl (by show _ < 80; omega) ?_
      simp (disch := first | decide | omega) only [mA_2s, mA_2n, mA_1, mF_2, mF_1s, mF_1n, pk_us, pk_un]
      refine V_mast R130 d_md_shape_144 (by first | with_reducible rfl | exact ix8 _ _ | exact ix6 _ _ | assumption) rfl rfl (by show _ < 80; omega) (fun h144 M144 => ?_)
      have R144 := M144.1
      refine V_aload_n d_md_shape_145 rfl rfl ?_
      refine V_getf d_md_shape_146 fl_md_28 R144.obj rfl ?_
      refine V_iload d_md_shape_149 rfl ?_
      refine V_aload_n d_md_shape_151 rfl rfl ?_
      refine V_getf d_md_shape_152 fl_md_28 R144.obj rfl ?_
      refine V_iload d_md_shape_155 rfl ?_
      refine V_mald R144 d_md_shape_157 (by first | with_reducible rfl | exact ix8 _ _ | exact ix6 _ _ | assumption) rfl rfl (by show _ < 80; omega) ?_
      simp (disch := first | decide | omega) only [mA_2s, mA_2n, mA_1, mF_2, mF_1s, mF_1n, pk_us, pk_un]
      refine V_mast R144 d_md_shape_158 (by first | with_reducible rfl | exact ix8 _ _ | exact ix6 _ _ | assumption) rfl rfl (by show _ < 80; omega) (fun h158 M158 => ?_)
      have R158 := M158.1
      refine V_iinc (v := _) d_md_shape_159 rfl rfl (by decide) rfl rfl ?_
      dsimp only [List.set]
      refine V_goto d_md_shape_162 ?_
      rw [show Int32.ofInt 1 = 1 from rfl, nI_1]
      exact ih (f + 1) _ _ _ _ (by omega) (by omega) (((((hM.trans M102).trans M116).trans M130).trans M144).trans M158) (hs.step hw hlt hk rfl rfl rfl rfl rfl)
theorem sp_md_shape (G : Gk) {h : Hp} {m : Nat} {am : Nat → Nat} {s : Mem} (r : RepM h m am s) (ivs : IvS s) (v : Int32) : Ct G md_shape [.ref m, .int v] h
    (pI fun r h' => (v ≠ -1 ∧ ¬ isSh s v ∧ h = h' ∧ r = -2) ∨ ((v = -1 ∨ isSh s v) ∧ nS s = 10 ∧ h = h' ∧ r = -4) ∨ ((v = -1 ∨ isSh s v) ∧ nS s < 10 ∧ ∃ t, Mod h m am h' t ∧ shpE s v t ∧ r = nI (nS s))) := by
  have h10 := ivs.2.1
  refine Ct.ofL (M := md_shape) (lv := [some (.ref m), some (.int v), none, none, none, none]) mdf_md_shape rfl (Nat.le_of_ble_eq_true rfl) rfl ?_
  refine V_iload_n d_md_shape_0 rfl rfl ?_
  refine V_iconst (v := -1) d_md_shape_1 (by decide) ?_
  refine V_icmp_eq d_md_shape_2 (fun c2 => ?_) (fun c2 => ?_)
  · skip
    have hv : v = -1 ∨ isSh s v := Or.inl c2
    refine V_aload_n d_md_shape_16 rfl rfl ?_
    refine V_getf d_md_shape_17 fl_md_110 r.obj rfl ?_
    rw [ivs.1]
    refine V_bipush (v := 10) d_md_shape_20 (by decide) ?_
    refine V_icmp_ne d_md_shape_22 (fun c22 => ?_) (fun c22 => ?_)
    · skip
      have h9 : nS s < 10 := by rcases Nat.lt_or_ge (nS s) 10 with q | q; exact q; exact absurd (by rw [show nS s = 10 by omega]; rfl) c22
      refine V_aload_n d_md_shape_28 rfl rfl ?_
      refine V_getf d_md_shape_29 fl_md_110 r.obj rfl ?_
      rw [ivs.1]
      refine V_istore_n d_md_shape_32 rfl (by decide) rfl rfl ?_
      dsimp only [List.set]
      refine V_aload_n d_md_shape_33 rfl rfl ?_
      refine V_getf d_md_shape_34 fl_md_7 r.obj rfl ?_
      refine V_iload_n d_md_shape_37 rfl rfl ?_
      refine V_iload_n d_md_shape_38 rfl rfl ?_
      refine V_mast r d_md_shape_39 (by first | with_reducible rfl | exact ix8 _ _ | exact ix6 _ _ | assumption) rfl rfl (by show _ < 10; omega) (fun h39 M39 => ?_)
      have R39 := M39.1
      refine V_aload_n d_md_shape_40 rfl rfl ?_
      refine V_getf d_md_shape_41 fl_md_13 R39.obj rfl ?_
      refine V_iload_n d_md_shape_44 rfl rfl ?_
      refine V_iload_n d_md_shape_45 rfl rfl ?_
      refine V_iconst (v := -1) d_md_shape_46 (by decide) ?_
      refine V_icmp_ne d_md_shape_47 (fun c47 => ?_) (fun c47 => ?_)
      · skip
        obtain ⟨w, hw, rfl⟩ : ∃ w, w < nS s ∧ v = nI w := isSh.ix ivs (hv.resolve_left c47)
        refine V_aload_n d_md_shape_54 rfl rfl ?_
        refine V_getf d_md_shape_55 fl_md_13 R39.obj rfl ?_
        refine V_iload_n d_md_shape_58 rfl rfl ?_
        refine V_mald R39 d_md_shape_59 (by first | with_reducible rfl | exact ix8 _ _ | exact ix6 _ _ | assumption) rfl rfl (by show _ < 10; omega) ?_
        simp (disch := first | decide | omega) only [mA_2s, mA_2n, mA_1, mF_2, mF_1s, mF_1n, pk_us, pk_un]
        rw [(ivs.2.2.1 w hw).1]
        refine V_mast R39 d_md_shape_60 (by first | with_reducible rfl | exact ix8 _ _ | exact ix6 _ _ | assumption) rfl rfl (by show _ < 10; omega) (fun h60 M60 => ?_)
        have R60 := M60.1
        refine V_iconst (v := 0) d_md_shape_61 (by decide) ?_
        refine V_istore_n d_md_shape_62 rfl (by decide) rfl rfl ?_
        dsimp only [List.set]
        refine V.mono (lp_shape G ivs h9 (nI w) w (nf s w) (ivs.2.2.1 w hw).2 (Or.inr ⟨hw, rfl, rfl⟩) (nf s w + 1) 0 _ _ _ _ (by omega) (by omega) (M39.trans M60) ⟨rfl, fun j i => ?_⟩) (fun v' h' q => ?_)
        · rw [if_neg (fun z => absurd z.2 (by omega))]; by_cases hj : j = 1 <;> by_cases hj2 : j = 2 <;> by_cases hi : i = nS s <;> simp [mA, va_up, upd, hj, hj2, hi]
        · obtain ⟨r', q1, t, q2, q3, q4⟩ := q; exact ⟨r', q1, Or.inr (Or.inr ⟨hv, h9, t, q2, q3, q4⟩)⟩
      · skip
        refine V_iconst (v := 0) d_md_shape_50 (by decide) ?_
        refine V_goto d_md_shape_51 ?_
        refine V_mast R39 d_md_shape_60 (by first | with_reducible rfl | exact ix8 _ _ | exact ix6 _ _ | assumption) rfl rfl (by show _ < 10; omega) (fun h60 M60 => ?_)
        have R60 := M60.1
        refine V_iconst (v := 0) d_md_shape_61 (by decide) ?_
        refine V_istore_n d_md_shape_62 rfl (by decide) rfl rfl ?_
        dsimp only [List.set]
        obtain rfl := c47
        refine V.mono (lp_shape G ivs h9 (-1) 0 0 (by decide) (Or.inl ⟨rfl, rfl⟩) 1 0 _ _ _ _ (by omega) (by omega) (M39.trans M60) ⟨rfl, fun j i => ?_⟩) (fun v' h' q => ?_)
        · rw [if_neg (fun z => absurd z.2 (by omega))]; by_cases hj : j = 1 <;> by_cases hj2 : j = 2 <;> by_cases hi : i = nS s <;> simp [mA, va_up, upd, hj, hj2, hi] <;> rfl
        · obtain ⟨r', q1, t, q2, q3, q4⟩ := q; exact ⟨r', q1, Or.inr (Or.inr ⟨hv, h9, t, q2, q3, q4⟩)⟩
    · skip
      refine V_bipush (v := -4) d_md_shape_25 (by decide) ?_
      refine V_ireturn d_md_shape_27 rfl ?_
      exact ⟨_, rfl, Or.inr (Or.inl ⟨hv, eqN c22 (by omega) (by decide), rfl, rfl⟩)⟩
  · skip
    refine V_aload_n d_md_shape_5 rfl rfl ?_
    refine V_iload_n d_md_shape_6 rfl rfl ?_
    refine V_callV (N := md_isShape) d_md_shape_7 ml_md_118 mdf_md_isShape wi_md_isShape wz_md_isShape (sp_md_isShape G r _) r.obj ⟨_, rfl, rfl⟩ rfl rfl (by decide) (by decide) (Nat.le_of_ble_eq_true rfl) rfl rfl (kI fun r7 h7 ⟨e7, f7⟩ => ?_)
    subst e7 f7
    refine V_if_ne d_md_shape_10 (fun c10 => ?_) (fun c10 => ?_)
    · skip
      have hv : v = -1 ∨ isSh s v := Or.inr (b01_ne c10)
      refine V_aload_n d_md_shape_16 rfl rfl ?_
      refine V_getf d_md_shape_17 fl_md_110 r.obj rfl ?_
      rw [ivs.1]
      refine V_bipush (v := 10) d_md_shape_20 (by decide) ?_
      refine V_icmp_ne d_md_shape_22 (fun c22 => ?_) (fun c22 => ?_)
      · skip
        have h9 : nS s < 10 := by rcases Nat.lt_or_ge (nS s) 10 with q | q; exact q; exact absurd (by rw [show nS s = 10 by omega]; rfl) c22
        refine V_aload_n d_md_shape_28 rfl rfl ?_
        refine V_getf d_md_shape_29 fl_md_110 r.obj rfl ?_
        rw [ivs.1]
        refine V_istore_n d_md_shape_32 rfl (by decide) rfl rfl ?_
        dsimp only [List.set]
        refine V_aload_n d_md_shape_33 rfl rfl ?_
        refine V_getf d_md_shape_34 fl_md_7 r.obj rfl ?_
        refine V_iload_n d_md_shape_37 rfl rfl ?_
        refine V_iload_n d_md_shape_38 rfl rfl ?_
        refine V_mast r d_md_shape_39 (by first | with_reducible rfl | exact ix8 _ _ | exact ix6 _ _ | assumption) rfl rfl (by show _ < 10; omega) (fun h39 M39 => ?_)
        have R39 := M39.1
        refine V_aload_n d_md_shape_40 rfl rfl ?_
        refine V_getf d_md_shape_41 fl_md_13 R39.obj rfl ?_
        refine V_iload_n d_md_shape_44 rfl rfl ?_
        refine V_iload_n d_md_shape_45 rfl rfl ?_
        refine V_iconst (v := -1) d_md_shape_46 (by decide) ?_
        refine V_icmp_ne d_md_shape_47 (fun c47 => ?_) (fun c47 => ?_)
        · skip
          obtain ⟨w, hw, rfl⟩ : ∃ w, w < nS s ∧ v = nI w := isSh.ix ivs (hv.resolve_left c47)
          refine V_aload_n d_md_shape_54 rfl rfl ?_
          refine V_getf d_md_shape_55 fl_md_13 R39.obj rfl ?_
          refine V_iload_n d_md_shape_58 rfl rfl ?_
          refine V_mald R39 d_md_shape_59 (by first | with_reducible rfl | exact ix8 _ _ | exact ix6 _ _ | assumption) rfl rfl (by show _ < 10; omega) ?_
          simp (disch := first | decide | omega) only [mA_2s, mA_2n, mA_1, mF_2, mF_1s, mF_1n, pk_us, pk_un]
          rw [(ivs.2.2.1 w hw).1]
          refine V_mast R39 d_md_shape_60 (by first | with_reducible rfl | exact ix8 _ _ | exact ix6 _ _ | assumption) rfl rfl (by show _ < 10; omega) (fun h60 M60 => ?_)
          have R60 := M60.1
          refine V_iconst (v := 0) d_md_shape_61 (by decide) ?_
          refine V_istore_n d_md_shape_62 rfl (by decide) rfl rfl ?_
          dsimp only [List.set]
          refine V.mono (lp_shape G ivs h9 (nI w) w (nf s w) (ivs.2.2.1 w hw).2 (Or.inr ⟨hw, rfl, rfl⟩) (nf s w + 1) 0 _ _ _ _ (by omega) (by omega) (M39.trans M60) ⟨rfl, fun j i => ?_⟩) (fun v' h' q => ?_)
          · rw [if_neg (fun z => absurd z.2 (by omega))]; by_cases hj : j = 1 <;> by_cases hj2 : j = 2 <;> by_cases hi : i = nS s <;> simp [mA, va_up, upd, hj, hj2, hi]
          · obtain ⟨r', q1, t, q2, q3, q4⟩ := q; exact ⟨r', q1, Or.inr (Or.inr ⟨hv, h9, t, q2, q3, q4⟩)⟩
        · skip
          refine V_iconst (v := 0) d_md_shape_50 (by decide) ?_
          refine V_goto d_md_shape_51 ?_
          refine V_mast R39 d_md_shape_60 (by first | with_reducible rfl | exact ix8 _ _ | exact ix6 _ _ | assumption) rfl rfl (by show _ < 10; omega) (fun h60 M60 => ?_)
          have R60 := M60.1
          refine V_iconst (v := 0) d_md_shape_61 (by decide) ?_
          refine V_istore_n d_md_shape_62 rfl (by decide) rfl rfl ?_
          dsimp only [List.set]
          obtain rfl := c47
          refine V.mono (lp_shape G ivs h9 (-1) 0 0 (by decide) (Or.inl ⟨rfl, rfl⟩) 1 0 _ _ _ _ (by omega) (by omega) (M39.trans M60) ⟨rfl, fun j i => ?_⟩) (fun v' h' q => ?_)
          · rw [if_neg (fun z => absurd z.2 (by omega))]; by_cases hj : j = 1 <;> by_cases hj2 : j = 2 <;> by_cases hi : i = nS s <;> simp [mA, va_up, upd, hj, hj2, hi] <;> rfl
          · obtain ⟨r', q1, t, q2, q3, q4⟩ := q; exact ⟨r', q1, Or.inr (Or.inr ⟨hv, h9, t, q2, q3, q4⟩)⟩
      · skip
        refine V_bipush (v := -4) d_md_shape_25 (by decide) ?_
        refine V_ireturn d_md_shape_27 rfl ?_
        exact ⟨_, rfl, Or.inr (Or.inl ⟨hv, eqN c22 (by omega) (by decide), rfl, rfl⟩)⟩
    · skip
      refine V_bipush (v := -2) d_md_shape_13 (by decide) ?_
      refine V_ireturn d_md_shape_15 rfl ?_
      exact ⟨_, rfl, Or.inl ⟨c2, b01_e c10, rfl, rfl⟩⟩
