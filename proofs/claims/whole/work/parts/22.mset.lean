/-! set, lead, unset of the reference -/
theorem IvS.of {s t : Mem} (iv : IvS s) (a0 : t.1 0 = s.1 0) (a1 : t.2 1 = s.2 1) (a2 : t.2 2 = s.2 2) : IvS t := by
  unfold IvS nS nf at *
  rw [a0, a1, a2]
  exact iv
theorem IvO.of {s t : Mem} (iv : IvO s) (a0 : t.1 0 = s.1 0) (a8 : t.1 8 = s.1 8) (a9 : t.2 9 = s.2 9) : IvO t := by
  unfold IvO nS nO sh at *
  rw [a0, a8, a9]
  exact iv
theorem IvW.of {s t : Mem} (iv : IvW s) (a0 : t.1 0 = s.1 0) (a25 : t.1 25 = s.1 25) (b1 : t.2 26 = s.2 26) (b2 : t.2 27 = s.2 27) (b3 : t.2 30 = s.2 30) : IvW t := by
  unfold IvW nS nW wc at *
  rw [a0, a25, b1, b2, b3]
  exact iv
theorem IvH.of {s t : Mem} (iv : IvH s) (a : t.1 16 = s.1 16) (b : t.1 20 = s.1 20) (c : t.1 21 = s.1 21) (d : t.1 23 = s.1 23) (e : t.2 22 = s.2 22) : IvH t := by
  unfold IvH nE nEn nD en at *
  rw [a, b, c, d, e]
  exact iv
def BegE (s : Mem) (o f : Nat) (t : Mem) : Prop := KeepE (mA (cutM s) 17 (nE' s) (nI (8 * o + f))) 18 (nE' s) (8 * o + f) 6 t
theorem cutM_2 (s : Mem) : (cutM s).2 = s.2 := by unfold cutM; split <;> rfl
theorem cutM_1 (s : Mem) {q : Nat} (h1 : q ≠ 16) (h2 : q ≠ 20) : (cutM s).1 q = s.1 q := by
  unfold cutM
  split
  · rw [mF_1n _ _ h1, mF_1n _ _ h2]
  · rfl
theorem BegE.a {s t : Mem} {o f : Nat} (h : BegE s o f t) {q : Nat} (h1 : q ≠ 17) (h2 : q ≠ 18) : t.2 q = s.2 q := by rw [h.2.1 q h2, mA_2n _ _ _ h1, cutM_2]
theorem BegE.f {s t : Mem} {o f : Nat} (h : BegE s o f t) {q : Nat} (h1 : q ≠ 16) (h2 : q ≠ 20) : t.1 q = s.1 q := by rw [h.1, mA_1, cutM_1 s h1 h2]
theorem en_le {s : Mem} (ivh : IvH s) : ∀ d k, k + d < nEn s → en s k ≤ en s (k + d)
  | 0, _, _ => Nat.le_refl _
  | d + 1, k, h => Nat.le_trans (en_le ivh d k (by omega)) (ivh.2.2.2.2.2.2.2.2 (k + d) (by omega))
theorem BegE.n {s t : Mem} {o f : Nat} (ivh : IvH s) (h : BegE s o f t) : IvH t ∧ nE t = nE' s ∧ nEn t = nD s ∧ nD t = nD s := by
  have hdE := dEnd_le ivh
  obtain ⟨h16, h20, h21, hde, hn60, hg, hE, hen, hmo⟩ := id ivh
  have hE' : nE' s ≤ nE s := by unfold nE'; split <;> omega
  have e16 : t.1 16 = nI (nE' s) := by
    rw [h.1, mA_1]
    unfold cutM nE'
    split
    · rw [mF_1s]
    · exact h16
  have e20 : t.1 20 = nI (nD s) := by
    rw [h.1, mA_1]
    unfold cutM
    split
    · rw [mF_1n _ _ (by decide), mF_1s]
    · rw [h20, show nEn s = nD s by omega]
  have e21 : t.1 21 = nI (nD s) := by rw [h.f (by decide) (by decide)]; exact h21
  have e22 : t.2 22 = s.2 22 := h.a (by decide) (by decide)
  have a1 : nE t = nE' s := by have : nE t = (t.1 16).toNatClampNeg := rfl; rw [this, e16]; exact cl _ (by omega)
  have a2 : nEn t = nD s := by have : nEn t = (t.1 20).toNatClampNeg := rfl; rw [this, e20]; exact cl _ (by omega)
  have a3 : nD t = nD s := by have : nD t = (t.1 21).toNatClampNeg := rfl; rw [this, e21]; exact cl _ (by omega)
  have a4 : ∀ k, en t k = en s k := fun k => by unfold en; rw [e22]
  refine ⟨⟨by rw [e16, a1], by rw [e20, a2], by rw [e21, a3], by omega, by omega, by rw [h.f (by decide) (by decide)]; exact hg, by omega, fun k hk => ?_, fun k hk => ?_⟩, a1, a2, a3⟩
  · rw [e22, a4, a1]
    refine ⟨(hen k (by omega)).1, ?_⟩
    unfold nE' dEnd
    split
    · rw [if_neg (by omega)]
      have := en_le ivh (nD s - 1 - k) k (by omega)
      rw [show k + (nD s - 1 - k) = nD s - 1 by omega] at this
      exact this
    · exact (hen k (by omega)).2
  · rw [a4, a4]; exact hmo k (by omega)
def EndE (s : Mem) (o f : Nat) (t : Mem) : Prop := ∃ t1 t2, KeepE s 19 (nE s) (8 * o + f) 6 t1 ∧ NoteE t1 o f (s.2 18 (7 * nE s)) (nW s) t2 ∧ ((s.1 23 ≠ 0 ∧ t = mF t2 16 (nI (nE s + 1))) ∨ (s.1 23 = 0 ∧ EntE (mF t2 16 (nI (nE s + 1))) t))
/-- the field's value becomes v, as an edit -/
def SetE (s : Mem) (o f : Nat) (v : Int32) (t : Mem) : Prop := ∃ t0, BegE s o f t0 ∧ EndE (mA t0 10 (8 * o + f) v) o f t
theorem sp_md_ends' (G : Gk) {h h0 : Hp} {m : Nat} {am : Nat → Nat} {s t0 t : Mem} (hM : Mod h0 m am h t) (ivs : IvS s) (ivo : IvO s) (ivw : IvW s) (ivh : IvH s) (hE8 : nE s < 680) (o f : Nat) (ho : o < nO s) (hf : f < 8) (hB : BegE s o f t0) (ht1 : t.1 = t0.1) (ht2 : ∀ q, q ≠ 10 → q ≠ 11 → t.2 q = t0.2 q) :
    Ct G md_ends [.ref m, .int (nI o), .int (nI f)] h (pI fun r h' => r = 1 ∧ ∃ t', Mod h0 m am h' t' ∧ EndE t o f t') := by
  have hdE := dEnd_le ivh
  obtain ⟨ih, a1, a2, a3⟩ := hB.n ivh
  have hE' : nE' s ≤ nE s := by unfold nE'; split <;> omega
  have j1 : IvS t := ivs.of (by rw [ht1, hB.f (by decide) (by decide)]) (by rw [ht2 _ (by decide) (by decide), hB.a (by decide) (by decide)]) (by rw [ht2 _ (by decide) (by decide), hB.a (by decide) (by decide)])
  have j2 : IvO t := ivo.of (by rw [ht1, hB.f (by decide) (by decide)]) (by rw [ht1, hB.f (by decide) (by decide)]) (by rw [ht2 _ (by decide) (by decide), hB.a (by decide) (by decide)])
  have j3 : IvW t := ivw.of (by rw [ht1, hB.f (by decide) (by decide)]) (by rw [ht1, hB.f (by decide) (by decide)]) (by rw [ht2 _ (by decide) (by decide), hB.a (by decide) (by decide)]) (by rw [ht2 _ (by decide) (by decide), hB.a (by decide) (by decide)]) (by rw [ht2 _ (by decide) (by decide), hB.a (by decide) (by decide)])
  have j4 : IvH t := ih.of (by rw [ht1]) (by rw [ht1]) (by rw [ht1]) (by rw [ht1]) (by rw [ht2 _ (by decide) (by decide)])
  have eO : nO t = nO s := by unfold nO; rw [ht1, hB.f (by decide) (by decide)]
  have eE : nE t = nE' s := by unfold nE; rw [ht1]; exact a1
  refine Ct.mono (sp_md_ends G hM.1 j1 j2 j3 j4 (by omega) o f (by rw [eO]; exact ho) hf) (fun v h' q => ?_)
  obtain ⟨r', q1, q2, t1, t2, t', q3, q4, q5, q6⟩ := q
  exact ⟨r', q1, q2, t', hM.trans q5, t1, t2, q3, q4, q6⟩
theorem sp_md_set (G : Gk) {h : Hp} {m : Nat} {am : Nat → Nat} {s : Mem} (r : RepM h m am s) (ivs : IvS s) (ivo : IvO s) (ivw : IvW s) (ivh : IvH s) (hE8 : nE s < 680) (v1 v2 v : Int32) : Ct G md_set [.ref m, .int v1, .int v2, .int v] h
    (pI fun r h' => (¬ hasF s v1 v2 ∧ h = h' ∧ r = -2) ∨ ∃ o f, o < nO s ∧ f < nf s (sh s o) ∧ v1 = nI o ∧ v2 = nI f ∧
      ((s.2 3 (8 * sh s o + f) ≠ 0 ∧ h = h' ∧ r = -6) ∨ (s.2 3 (8 * sh s o + f) = 0 ∧ 0 < s.2 7 (8 * sh s o + f) &&& 2 ∧ s.2 10 (8 * o + f) ≠ MISS ∧ h = h' ∧ r = -7) ∨
      (s.2 3 (8 * sh s o + f) = 0 ∧ ¬ (0 < s.2 7 (8 * sh s o + f) &&& 2 ∧ s.2 10 (8 * o + f) ≠ MISS) ∧
        ((¬ (s.2 4 (8 * sh s o + f) ≤ v ∧ v ≤ s.2 5 (8 * sh s o + f)) ∧ h = h' ∧ r = -8) ∨ ((s.2 4 (8 * sh s o + f) ≤ v ∧ v ≤ s.2 5 (8 * sh s o + f)) ∧ vetM s o f v (nW s) ∧ h = h' ∧ r = -12) ∨
          ((s.2 4 (8 * sh s o + f) ≤ v ∧ v ≤ s.2 5 (8 * sh s o + f)) ∧ ¬ vetM s o f v (nW s) ∧ r = 1 ∧ ∃ t, Mod h m am h' t ∧ SetE s o f v t))))) := by
  have h10 := ivs.2.1
  have h60 := ivo.2.1
  refine Ct.ofL (M := md_set) (lv := [some (.ref m), some (.int v1), some (.int v2), some (.int v), none]) mdf_md_set rfl (Nat.le_of_ble_eq_true rfl) rfl ?_
  refine V_aload_n d_md_set_0 rfl rfl ?_
  refine V_iload_n d_md_set_1 rfl rfl ?_
  refine V_iload_n d_md_set_2 rfl rfl ?_
  refine V_callV (N := md_hasField) d_md_set_3 ml_md_169 mdf_md_hasField wi_md_hasField wz_md_hasField (sp_md_hasField G r ivs ivo _ _) r.obj ⟨_, rfl, rfl⟩ rfl rfl (by decide) (by decide) (Nat.le_of_ble_eq_true rfl) rfl rfl (kI fun r3 h3 ⟨e3, f3⟩ => ?_)
  subst e3 f3
  refine V_if_ne d_md_set_6 (fun c6 => ?_) (fun c6 => ?_)
  · skip
    obtain ⟨o, f, ho, rfl, hf, rfl⟩ := b01_ne c6
    obtain ⟨hs1, hs2⟩ := ivo.2.2 o ho
    have hf8 := (ivs.2.2.1 _ hs2).2
    refine V_aload_n d_md_set_12 rfl rfl ?_
    refine V_iload_n d_md_set_13 rfl rfl ?_
    refine V_iload_n d_md_set_14 rfl rfl ?_
    refine V_callV (N := md_by) d_md_set_15 ml_md_156 mdf_md_by wi_md_by wz_md_by (sp_md_by' G r o f (sh s o) (by omega) hs1) r.obj ⟨_, rfl, rfl⟩ rfl rfl (by decide) (by decide) (Nat.le_of_ble_eq_true rfl) rfl rfl (kI fun r15 h15 ⟨e15, f15⟩ => ?_)
    subst e15 f15
    refine V_istore d_md_set_18 (by decide) rfl rfl ?_
    dsimp only [List.set]
    refine V_aload_n d_md_set_20 rfl rfl ?_
    refine V_getf d_md_set_21 fl_md_16 r.obj rfl ?_
    refine V_iload d_md_set_24 rfl ?_
    refine V_mald r d_md_set_26 (by first | with_reducible rfl | exact ix8 _ _ | exact ix6 _ _ | assumption) rfl rfl (by show _ < 80; omega) ?_
    refine V_if_eq d_md_set_27 (fun c27 => ?_) (fun c27 => ?_)
    · skip
      refine V_aload_n d_md_set_33 rfl rfl ?_
      refine V_iload_n d_md_set_34 rfl rfl ?_
      refine V_iload_n d_md_set_35 rfl rfl ?_
      refine V_iconst (v := 0) d_md_set_36 (by decide) ?_
      refine V_callV (N := md_isReadOnly) d_md_set_37 ml_md_221 mdf_md_isReadOnly wi_md_isReadOnly wz_md_isReadOnly (sp_md_isReadOnly G r ivs ivo o f ho hf 0) r.obj ⟨_, rfl, rfl⟩ rfl rfl (by decide) (by decide) (Nat.le_of_ble_eq_true rfl) rfl rfl (kI fun r37 h37 ⟨e37, f37⟩ => ?_)
      subst e37 f37
      refine V_if_eq d_md_set_40 (fun c40 => ?_) (fun c40 => ?_)
      · skip
        have hro : ¬ (0 < s.2 7 (8 * sh s o + f) &&& 2 ∧ s.2 10 (8 * o + f) ≠ MISS) := fun q => b01_e c40 ⟨q.1, Or.inr q.2⟩
        refine V_iload_n d_md_set_46 rfl rfl ?_
        refine V_aload_n d_md_set_47 rfl rfl ?_
        refine V_getf d_md_set_48 fl_md_19 r.obj rfl ?_
        refine V_iload d_md_set_51 rfl ?_
        refine V_mald r d_md_set_53 (by first | with_reducible rfl | exact ix8 _ _ | exact ix6 _ _ | assumption) rfl rfl (by show _ < 80; omega) ?_
        refine V_aload_n d_md_set_54 rfl rfl ?_
        refine V_getf d_md_set_55 fl_md_22 r.obj rfl ?_
        refine V_iload d_md_set_58 rfl ?_
        refine V_mald r d_md_set_60 (by first | with_reducible rfl | exact ix8 _ _ | exact ix6 _ _ | assumption) rfl rfl (by show _ < 80; omega) ?_
        refine V_callS (N := md_in) d_md_set_61 ml_md_114 mdf_md_in ws_md_in (sp_md_in G _ _ _ _) rfl rfl (by decide) (by decide) (Nat.le_of_ble_eq_true rfl) rfl rfl (kI fun r61 h61 ⟨e61, f61⟩ => ?_)
        subst e61 f61
        refine V_if_ne d_md_set_64 (fun c64 => ?_) (fun c64 => ?_)
        · skip
          refine V_aload_n d_md_set_70 rfl rfl ?_
          refine V_iload_n d_md_set_71 rfl rfl ?_
          refine V_iload_n d_md_set_72 rfl rfl ?_
          refine V_iload_n d_md_set_73 rfl rfl ?_
          refine V_callV (N := md_isVetoed) d_md_set_74 ml_md_225 mdf_md_isVetoed wi_md_isVetoed wz_md_isVetoed (sp_md_isVetoed G r ivs ivo ivw o f ho v) r.obj ⟨_, rfl, rfl⟩ rfl rfl (by decide) (by decide) (Nat.le_of_ble_eq_true rfl) rfl rfl (kI fun r74 h74 ⟨e74, f74⟩ => ?_)
          subst e74 f74
          refine V_if_eq d_md_set_77 (fun c77 => ?_) (fun c77 => ?_)
          · skip
            refine V_aload_n d_md_set_83 rfl rfl ?_
            refine V_iload_n d_md_set_84 rfl rfl ?_
            refine V_iload_n d_md_set_85 rfl rfl ?_
            refine V_callV (N := md_begins) d_md_set_86 ml_md_228 mdf_md_begins wi_md_begins wz_md_begins (sp_md_begins G r ivo ivh o f ho (by omega)) r.obj ⟨_, rfl, rfl⟩ rfl rfl (by decide) (by decide) (Nat.le_of_ble_eq_true rfl) rfl rfl (kN fun h86 ⟨t0, M86, B86⟩ => ?_)
            have R86 := M86.1
            refine V_aload_n d_md_set_89 rfl rfl ?_
            refine V_getf d_md_set_90 fl_md_34 R86.obj rfl ?_
            refine V_aload_n d_md_set_93 rfl rfl ?_
            refine V_iload_n d_md_set_94 rfl rfl ?_
            refine V_iload_n d_md_set_95 rfl rfl ?_
            refine V_callV (N := md_at) d_md_set_96 ml_md_152 mdf_md_at wi_md_at wz_md_at (sp_md_at G _ _ _ _) R86.obj ⟨_, rfl, rfl⟩ rfl rfl (by decide) (by decide) (Nat.le_of_ble_eq_true rfl) rfl rfl (kI fun r96 h96 ⟨e96, f96⟩ => ?_)
            subst e96 f96
            refine V_iload_n d_md_set_99 rfl rfl ?_
            refine V_mast R86 d_md_set_100 (by first | with_reducible rfl | exact ix8 _ _ | exact ix6 _ _ | assumption) rfl rfl (by show _ < 480; omega) (fun h100 M100 => ?_)
            have R100 := M100.1
            refine V_aload_n d_md_set_101 rfl rfl ?_
            refine V_iload_n d_md_set_102 rfl rfl ?_
            refine V_iload_n d_md_set_103 rfl rfl ?_
            refine V_callV (N := md_ends) d_md_set_104 ml_md_232 mdf_md_ends wi_md_ends wz_md_ends (sp_md_ends' G (M86.trans M100) ivs ivo ivw ivh hE8 o f ho (by omega) B86 rfl (fun q a b => mA_2n _ _ _ a)) R100.obj ⟨_, rfl, rfl⟩ rfl rfl (by decide) (by decide) (Nat.le_of_ble_eq_true rfl) rfl rfl (kI fun r104 h104 ⟨e104, t, M104, E104⟩ => ?_)
            refine V_ireturn d_md_set_107 rfl ?_
            exact ⟨_, rfl, Or.inr ⟨o, f, ho, hf, rfl, rfl, Or.inr (Or.inr ⟨c27, hro, Or.inr (Or.inr ⟨b01_ne c64, b01_e c77, e104, t, M104, t0, B86, E104⟩)⟩)⟩⟩
          · skip
            refine V_bipush (v := -12) d_md_set_80 (by decide) ?_
            refine V_ireturn d_md_set_82 rfl ?_
            exact ⟨_, rfl, Or.inr ⟨o, f, ho, hf, rfl, rfl, Or.inr (Or.inr ⟨c27, hro, Or.inr (Or.inl ⟨b01_ne c64, b01_ne c77, rfl, rfl⟩)⟩)⟩⟩
        · skip
          refine V_bipush (v := -8) d_md_set_67 (by decide) ?_
          refine V_ireturn d_md_set_69 rfl ?_
          exact ⟨_, rfl, Or.inr ⟨o, f, ho, hf, rfl, rfl, Or.inr (Or.inr ⟨c27, hro, Or.inl ⟨b01_e c64, rfl, rfl⟩⟩)⟩⟩
      · skip
        refine V_bipush (v := -7) d_md_set_43 (by decide) ?_
        refine V_ireturn d_md_set_45 rfl ?_
        have q := b01_ne c40
        exact ⟨_, rfl, Or.inr ⟨o, f, ho, hf, rfl, rfl, Or.inr (Or.inl ⟨c27, q.1, q.2.resolve_left (fun z => z rfl), rfl, rfl⟩)⟩⟩
    · skip
      refine V_bipush (v := -6) d_md_set_30 (by decide) ?_
      refine V_ireturn d_md_set_32 rfl ?_
      exact ⟨_, rfl, Or.inr ⟨o, f, ho, hf, rfl, rfl, Or.inl ⟨c27, rfl, rfl⟩⟩⟩
  · skip
    refine V_bipush (v := -2) d_md_set_9 (by decide) ?_
    refine V_ireturn d_md_set_11 rfl ?_
    exact ⟨_, rfl, Or.inl ⟨b01_e c6, rfl, rfl⟩⟩
