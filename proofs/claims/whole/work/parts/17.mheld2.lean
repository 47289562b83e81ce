/-! comesHeld, findHeld, isHeld, holds -/
theorem bRow_ok {s : Mem} {N y : Nat} (hN : N < 1000) {b : Bf} (hb : bOK N b) : ∀ n, (∀ i, i < n → ∃ t, t < N ∧ s.2 11 (6 * y + i) = nI t) → bOK N (bRow s y b n)
  | 0, _ => hb
  | n + 1, h => (bRow_ok hN hb n (fun i hi => h i (by omega))).add hN (Or.inr (h n (by omega)))
theorem bFld_ok {s : Mem} (ivo : IvO s) (ivv : IvV s) {o : Nat} (ho : o < nO s) {b : Bf} (hb : bOK (nO s) b) : ∀ f, f ≤ nf s (sh s o) → bOK (nO s) (bFld s o b f)
  | 0, _ => hb
  | f + 1, hf => by
    have h60 := ivo.2.1
    have ih := bFld_ok ivo ivv ho hb f (by omega)
    have hv := ivv o ho f (by omega)
    rw [bFld]
    split
    · split
      · rename_i q; exact ih.add (by omega) (hv.1 q)
      · split
        · rename_i q
          obtain ⟨n, q1, q2, q3⟩ := hv.2 q
          rw [q2, cl n (by omega)]
          exact bRow_ok (by omega) ih n q3
        · exact ih
    · exact ih
theorem lp_ch2 (G : Gk) {m : Nat} {am : Nat → Nat} {s : Mem} {post : Option Value → Hp → Prop} {h0 : Hp} (ivo : IvO s) (o f x len : Nat) (ho : o < nO s) (hf : f < 8) (hx : x < 80) (hfl : s.2 7 x &&& 4 = 0) (hk : s.2 3 x = 2) (b : Bf) (hb : bOK (nO s) b) (h6 : len ≤ 6) (hl : s.2 10 (8 * o + f) = nI len) (hp : ∀ i, i < len → ∃ t, t < nO s ∧ s.2 11 (6 * (8 * o + f) + i) = nI t)
    (K : ∀ (h : Hp) (l4 : Option Value), Mod h0 m am h (sB s (bRow s (8 * o + f) b len)) → V G md_comesHeld post h 0 0 127 [some (.ref m), some (.int (nI o)), some (.int (nI f)), some (.int (nI x)), l4] []) : ∀ (n i : Nat) (h : Hp), i ≤ len → len + 1 ≤ i + n → Mod h0 m am h (sB s (bRow s (8 * o + f) b i)) →
    V G md_comesHeld post h 0 0 84 [some (.ref m), some (.int (nI o)), some (.int (nI f)), some (.int (nI x)), some (.int (nI i))] [] := by
  have h60 := ivo.2.1
  intro n
  induction n with
  | zero => intro i h h1 h2; exact absurd h2 (by omega)
  | succ n ih =>
    intro i h hq1 hq2 hM
    have r := hM.1
    refine V_iload d_md_comesHeld_84 rfl ?_
    refine V_aload_n d_md_comesHeld_86 rfl rfl ?_
    refine V_getf d_md_comesHeld_87 fl_md_34 r.obj rfl ?_
    refine V_aload_n d_md_comesHeld_90 rfl rfl ?_
    refine V_iload_n d_md_comesHeld_91 rfl rfl ?_
    refine V_iload_n d_md_comesHeld_92 rfl rfl ?_
    refine V_callV (N := md_at) d_md_comesHeld_93 ml_md_152 mdf_md_at wi_md_at wz_md_at (sp_md_at G _ _ _ _) r.obj ⟨_, rfl, rfl⟩ rfl rfl (by decide) (by decide) (Nat.le_of_ble_eq_true rfl) rfl rfl (kI fun r93 h93 ⟨e93, f93⟩ => ?_)
    subst e93 f93
    refine V_mald r d_md_comesHeld_96 (by first | with_reducible rfl | exact ix8 _ _ | exact ix6 _ _ | assumption) rfl rfl (by show _ < 480; omega) ?_
    rw [sB_2 _ _ (by decide) (by decide), hl]
    refine V_icmp_ge d_md_comesHeld_97 (fun c97 => ?_) (fun c97 => ?_)
    · skip
      obtain rfl : i = len := by have := geN c97 (by omega); omega
      exact K _ _ hM
    · skip
      have hlt := ltN c97 (by omega)
      obtain ⟨t, ht, htt⟩ := hp i hlt
      refine V_aload_n d_md_comesHeld_100 rfl rfl ?_
      refine V_aload_n d_md_comesHeld_101 rfl rfl ?_
      refine V_getf d_md_comesHeld_102 fl_md_37 r.obj rfl ?_
      refine V_bipush (v := 6) d_md_comesHeld_105 (by decide) ?_
      refine V_aload_n d_md_comesHeld_107 rfl rfl ?_
      refine V_iload_n d_md_comesHeld_108 rfl rfl ?_
      refine V_iload_n d_md_comesHeld_109 rfl rfl ?_
      refine V_callV (N := md_at) d_md_comesHeld_110 ml_md_152 mdf_md_at wi_md_at wz_md_at (sp_md_at G _ _ _ _) r.obj ⟨_, rfl, rfl⟩ rfl rfl (by decide) (by decide) (Nat.le_of_ble_eq_true rfl) rfl rfl (kI fun r110 h110 ⟨e110, f110⟩ => ?_)
      subst e110 f110
      refine V_imul d_md_comesHeld_113 ?_
      refine V_iload d_md_comesHeld_114 rfl ?_
      refine V_iadd d_md_comesHeld_116 ?_
      refine V_mald r d_md_comesHeld_117 (by first | with_reducible rfl | exact ix8 _ _ | exact ix6 _ _ | assumption) rfl rfl (by show _ < 2880; omega) ?_
      rw [sB_2 _ _ (by decide) (by decide), htt]
      refine V_callV (N := md_comes) d_md_comesHeld_118 ml_md_178 mdf_md_comes wi_md_comes wz_md_comes (sp_md_comes G r h60 (bRow_ok (by omega) hb i (fun q hq => hp q (by omega))) (nI t) (Or.inr ⟨t, ht, rfl⟩)) r.obj ⟨_, rfl, rfl⟩ rfl rfl (by decide) (by decide) (Nat.le_of_ble_eq_true rfl) rfl rfl (kN fun h118 M118 => ?_)
      have R118 := M118.1
      refine V_iinc (v := _) d_md_comesHeld_121 rfl rfl (by decide) rfl rfl ?_
      dsimp only [List.set]
      refine V_goto d_md_comesHeld_124 ?_
      refine V_aload_n d_md_comesHeld_63 rfl rfl ?_
      refine V_getf d_md_comesHeld_64 fl_md_28 R118.obj rfl ?_
      refine V_iload_n d_md_comesHeld_67 rfl rfl ?_
      refine V_mald R118 d_md_comesHeld_68 (by first | with_reducible rfl | exact ix8 _ _ | exact ix6 _ _ | assumption) rfl rfl (by show _ < 80; omega) ?_
      rw [sB_2 _ _ (by decide) (by decide)]
      refine V_iconst (v := 4) d_md_comesHeld_69 (by decide) ?_
      refine V_iand d_md_comesHeld_70 ?_
      refine V_if_ne d_md_comesHeld_71 (fun c71 => ?_) (fun c71 => ?_)
      · skip
        exact absurd hfl c71
      · skip
        refine V_aload_n d_md_comesHeld_74 rfl rfl ?_
        refine V_getf d_md_comesHeld_75 fl_md_16 R118.obj rfl ?_
        refine V_iload_n d_md_comesHeld_78 rfl rfl ?_
        refine V_mald R118 d_md_comesHeld_79 (by first | with_reducible rfl | exact ix8 _ _ | exact ix6 _ _ | assumption) rfl rfl (by show _ < 80; omega) ?_
        rw [sB_2 _ _ (by decide) (by decide)]
        refine V_iconst (v := 2) d_md_comesHeld_80 (by decide) ?_
        refine V_icmp_ne d_md_comesHeld_81 (fun c81 => ?_) (fun c81 => ?_)
        · skip
          exact absurd hk c81
        · skip
          rw [show Int32.ofInt 1 = 1 from rfl, nI_1]
          refine ih (i + 1) _ (by omega) (by omega) ?_
          rw [bRow, htt]
          exact hM.trans M118
theorem lp_ch (G : Gk) {m : Nat} {am : Nat → Nat} {s : Mem} {h0 : Hp} (ivs : IvS s) (ivo : IvO s) (ivv : IvV s) (o : Nat) (ho : o < nO s) (b : Bf) (hb : bOK (nO s) b) : ∀ (n f : Nat) (h : Hp) (l3 l4 : Option Value), f ≤ nf s (sh s o) → nf s (sh s o) + 1 ≤ f + n → Mod h0 m am h (sB s (bFld s o b f)) →
    V G md_comesHeld (pN fun h' => Mod h0 m am h' (sB s (bHeld s o b))) h 0 0 2 [some (.ref m), some (.int (nI o)), some (.int (nI f)), l3, l4] [] := by
  have h10 := ivs.2.1
  have h60 := ivo.2.1
  obtain ⟨hs1, hs2⟩ := ivo.2.2 o ho
  obtain ⟨hf1, hf2⟩ := ivs.2.2.1 _ hs2
  intro n
  induction n with
  | zero => intro f h l3 l4 h1 h2; exact absurd h2 (by omega)
  | succ n ih =>
    intro f h l3 l4 hq1 hq2 hM
    have r := hM.1
    have hbf := bFld_ok ivo ivv ho hb f hq1
    refine V_iload_n d_md_comesHeld_2 rfl rfl ?_
    refine V_aload_n d_md_comesHeld_3 rfl rfl ?_
    refine V_getf d_md_comesHeld_4 fl_md_13 r.obj rfl ?_
    refine V_aload_n d_md_comesHeld_7 rfl rfl ?_
    refine V_getf d_md_comesHeld_8 fl_md_31 r.obj rfl ?_
    refine V_iload_n d_md_comesHeld_11 rfl rfl ?_
    refine V_mald r d_md_comesHeld_12 (by first | with_reducible rfl | exact ix8 _ _ | exact ix6 _ _ | assumption) rfl rfl (by show _ < 60; omega) ?_
    rw [sB_2 _ _ (by decide) (by decide), hs1]
    refine V_mald r d_md_comesHeld_13 (by first | with_reducible rfl | exact ix8 _ _ | exact ix6 _ _ | assumption) rfl rfl (by show _ < 10; omega) ?_
    rw [sB_2 _ _ (by decide) (by decide), hf1]
    refine V_icmp_ge d_md_comesHeld_14 (fun c14 => ?_) (fun c14 => ?_)
    · skip
      have hfk := geN c14 (by omega)
      obtain rfl : f = nf s (sh s o) := by omega
      refine V_return d_md_comesHeld_133 rfl ?_
      exact ⟨rfl, hM⟩
    · skip
      have hlt := ltN c14 (by omega)
      have hv := ivv o ho f hlt
      refine V_aload_n d_md_comesHeld_17 rfl rfl ?_
      refine V_iload_n d_md_comesHeld_18 rfl rfl ?_
      refine V_iload_n d_md_comesHeld_19 rfl rfl ?_
      refine V_callV (N := md_by) d_md_comesHeld_20 ml_md_156 mdf_md_by wi_md_by wz_md_by (sp_md_by' G r o f (sh s o) (by omega) (by rw [sB_2 _ _ (by decide) (by decide)]; exact hs1)) r.obj ⟨_, rfl, rfl⟩ rfl rfl (by decide) (by decide) (Nat.le_of_ble_eq_true rfl) rfl rfl (kI fun r20 h20 ⟨e20, f20⟩ => ?_)
      subst e20 f20
      refine V_istore_n d_md_comesHeld_23 rfl (by decide) rfl rfl ?_
      dsimp only [List.set]
      refine V_aload_n d_md_comesHeld_24 rfl rfl ?_
      refine V_getf d_md_comesHeld_25 fl_md_28 r.obj rfl ?_
      refine V_iload_n d_md_comesHeld_28 rfl rfl ?_
      refine V_mald r d_md_comesHeld_29 (by first | with_reducible rfl | exact ix8 _ _ | exact ix6 _ _ | assumption) rfl rfl (by show _ < 80; omega) ?_
      rw [sB_2 _ _ (by decide) (by decide)]
      refine V_iconst (v := 4) d_md_comesHeld_30 (by decide) ?_
      refine V_iand d_md_comesHeld_31 ?_
      refine V_if_ne d_md_comesHeld_32 (fun c32 => ?_) (fun c32 => ?_)
      · skip
        refine V_iconst (v := 0) d_md_comesHeld_60 (by decide) ?_
        refine V_istore d_md_comesHeld_61 (by decide) rfl rfl ?_
        dsimp only [List.set]
        refine V_aload_n d_md_comesHeld_63 rfl rfl ?_
        refine V_getf d_md_comesHeld_64 fl_md_28 r.obj rfl ?_
        refine V_iload_n d_md_comesHeld_67 rfl rfl ?_
        refine V_mald r d_md_comesHeld_68 (by first | with_reducible rfl | exact ix8 _ _ | exact ix6 _ _ | assumption) rfl rfl (by show _ < 80; omega) ?_
        rw [sB_2 _ _ (by decide) (by decide)]
        refine V_iconst (v := 4) d_md_comesHeld_69 (by decide) ?_
        refine V_iand d_md_comesHeld_70 ?_
        refine V_if_ne d_md_comesHeld_71 (fun c71 => ?_) (fun c71 => ?_)
        · skip
          refine V_iinc (v := _) d_md_comesHeld_127 rfl rfl (by decide) rfl rfl ?_
          dsimp only [List.set]
          refine V_goto d_md_comesHeld_130 ?_
          rw [show Int32.ofInt 1 = 1 from rfl, nI_1]
          refine ih (f + 1) _ _ _ (by omega) (by omega) ?_
          rw [bFld, if_neg c32]
          exact hM
        · skip
          exact absurd c71 c32
      · skip
        refine V_aload_n d_md_comesHeld_35 rfl rfl ?_
        refine V_getf d_md_comesHeld_36 fl_md_16 r.obj rfl ?_
        refine V_iload_n d_md_comesHeld_39 rfl rfl ?_
        refine V_mald r d_md_comesHeld_40 (by first | with_reducible rfl | exact ix8 _ _ | exact ix6 _ _ | assumption) rfl rfl (by show _ < 80; omega) ?_
        rw [sB_2 _ _ (by decide) (by decide)]
        refine V_iconst (v := 1) d_md_comesHeld_41 (by decide) ?_
        refine V_icmp_ne d_md_comesHeld_42 (fun c42 => ?_) (fun c42 => ?_)
        · skip
          refine V_iconst (v := 0) d_md_comesHeld_60 (by decide) ?_
          refine V_istore d_md_comesHeld_61 (by decide) rfl rfl ?_
          dsimp only [List.set]
          refine V_aload_n d_md_comesHeld_63 rfl rfl ?_
          refine V_getf d_md_comesHeld_64 fl_md_28 r.obj rfl ?_
          refine V_iload_n d_md_comesHeld_67 rfl rfl ?_
          refine V_mald r d_md_comesHeld_68 (by first | with_reducible rfl | exact ix8 _ _ | exact ix6 _ _ | assumption) rfl rfl (by show _ < 80; omega) ?_
          rw [sB_2 _ _ (by decide) (by decide)]
          refine V_iconst (v := 4) d_md_comesHeld_69 (by decide) ?_
          refine V_iand d_md_comesHeld_70 ?_
          refine V_if_ne d_md_comesHeld_71 (fun c71 => ?_) (fun c71 => ?_)
          · skip
            exact absurd c32 c71
          · skip
            refine V_aload_n d_md_comesHeld_74 rfl rfl ?_
            refine V_getf d_md_comesHeld_75 fl_md_16 r.obj rfl ?_
            refine V_iload_n d_md_comesHeld_78 rfl rfl ?_
            refine V_mald r d_md_comesHeld_79 (by first | with_reducible rfl | exact ix8 _ _ | exact ix6 _ _ | assumption) rfl rfl (by show _ < 80; omega) ?_
            rw [sB_2 _ _ (by decide) (by decide)]
            refine V_iconst (v := 2) d_md_comesHeld_80 (by decide) ?_
            refine V_icmp_ne d_md_comesHeld_81 (fun c81 => ?_) (fun c81 => ?_)
            · skip
              refine V_iinc (v := _) d_md_comesHeld_127 rfl rfl (by decide) rfl rfl ?_
              dsimp only [List.set]
              refine V_goto d_md_comesHeld_130 ?_
              rw [show Int32.ofInt 1 = 1 from rfl, nI_1]
              refine ih (f + 1) _ _ _ (by omega) (by omega) ?_
              rw [bFld, if_pos c32, if_neg c42, if_neg c81]
              exact hM
            · skip
              obtain ⟨len, hl6, hl, hp⟩ := hv.2 c81
              refine lp_ch2 G ivo o f (8 * sh s o + f) len ho (by omega) (by omega) c32 c81 (bFld s o b f) hbf hl6 hl hp (fun h1 l4 M1 => ?_) (len + 1) 0 _ (by omega) (by omega) hM
              refine V_iinc d_md_comesHeld_127 rfl rfl (by decide) rfl rfl ?_
              dsimp only [List.set]
              refine V_goto d_md_comesHeld_130 ?_
              rw [show Int32.ofInt 1 = 1 from rfl, nI_1]
              refine ih (f + 1) _ _ _ (by omega) (by omega) ?_
              rw [bFld, if_pos c32, if_neg c42, if_pos c81, hl, cl len (by omega)]
              exact M1
        · skip
          refine V_aload_n d_md_comesHeld_45 rfl rfl ?_
          refine V_aload_n d_md_comesHeld_46 rfl rfl ?_
          refine V_getf d_md_comesHeld_47 fl_md_34 r.obj rfl ?_
          refine V_aload_n d_md_comesHeld_50 rfl rfl ?_
          refine V_iload_n d_md_comesHeld_51 rfl rfl ?_
          refine V_iload_n d_md_comesHeld_52 rfl rfl ?_
          refine V_callV (N := md_at) d_md_comesHeld_53 ml_md_152 mdf_md_at wi_md_at wz_md_at (sp_md_at G _ _ _ _) r.obj ⟨_, rfl, rfl⟩ rfl rfl (by decide) (by decide) (Nat.le_of_ble_eq_true rfl) rfl rfl (kI fun r53 h53 ⟨e53, f53⟩ => ?_)
          subst e53 f53
          refine V_mald r d_md_comesHeld_56 (by first | with_reducible rfl | exact ix8 _ _ | exact ix6 _ _ | assumption) rfl rfl (by show _ < 480; omega) ?_
          rw [sB_2 _ _ (by decide) (by decide)]
          refine V_callV (N := md_comes) d_md_comesHeld_57 ml_md_178 mdf_md_comes wi_md_comes wz_md_comes (sp_md_comes G r h60 hbf _ (hv.1 c42)) r.obj ⟨_, rfl, rfl⟩ rfl rfl (by decide) (by decide) (Nat.le_of_ble_eq_true rfl) rfl rfl (kN fun h57 M57 => ?_)
          have R57 := M57.1
          refine V_iconst (v := 0) d_md_comesHeld_60 (by decide) ?_
          refine V_istore d_md_comesHeld_61 (by decide) rfl rfl ?_
          dsimp only [List.set]
          refine V_aload_n d_md_comesHeld_63 rfl rfl ?_
          refine V_getf d_md_comesHeld_64 fl_md_28 R57.obj rfl ?_
          refine V_iload_n d_md_comesHeld_67 rfl rfl ?_
          refine V_mald R57 d_md_comesHeld_68 (by first | with_reducible rfl | exact ix8 _ _ | exact ix6 _ _ | assumption) rfl rfl (by show _ < 80; omega) ?_
          rw [sB_2 _ _ (by decide) (by decide)]
          refine V_iconst (v := 4) d_md_comesHeld_69 (by decide) ?_
          refine V_iand d_md_comesHeld_70 ?_
          refine V_if_ne d_md_comesHeld_71 (fun c71 => ?_) (fun c71 => ?_)
          · skip
            exact absurd c32 c71
          · skip
            refine V_aload_n d_md_comesHeld_74 rfl rfl ?_
            refine V_getf d_md_comesHeld_75 fl_md_16 R57.obj rfl ?_
            refine V_iload_n d_md_comesHeld_78 rfl rfl ?_
            refine V_mald R57 d_md_comesHeld_79 (by first | with_reducible rfl | exact ix8 _ _ | exact ix6 _ _ | assumption) rfl rfl (by show _ < 80; omega) ?_
            rw [sB_2 _ _ (by decide) (by decide)]
            refine V_iconst (v := 2) d_md_comesHeld_80 (by decide) ?_
            refine V_icmp_ne d_md_comesHeld_81 (fun c81 => ?_) (fun c81 => ?_)
            · skip
              refine V_iinc (v := _) d_md_comesHeld_127 rfl rfl (by decide) rfl rfl ?_
              dsimp only [List.set]
              refine V_goto d_md_comesHeld_130 ?_
              rw [show Int32.ofInt 1 = 1 from rfl, nI_1]
              refine ih (f + 1) _ _ _ (by omega) (by omega) ?_
              rw [bFld, if_pos c32, if_pos c42]
              exact hM.trans M57
            · skip
              exact absurd (c42.symm.trans c81) (by decide)
theorem sp_md_comesHeld (G : Gk) {h : Hp} {m : Nat} {am : Nat → Nat} {s : Mem} {b : Bf} (r : RepM h m am (sB s b)) (ivs : IvS s) (ivo : IvO s) (ivv : IvV s) (hb : bOK (nO s) b) (o : Nat) (ho : o < nO s) : Ct G md_comesHeld [.ref m, .int (nI o)] h (pN fun h' => Mod h m am h' (sB s (bHeld s o b))) := by
  refine Ct.ofL (M := md_comesHeld) (lv := [some (.ref m), some (.int (nI o)), none, none, none]) mdf_md_comesHeld rfl (Nat.le_of_ble_eq_true rfl) rfl ?_
  refine V_iconst (v := 0) d_md_comesHeld_0 (by decide) ?_
  refine V_istore_n d_md_comesHeld_1 rfl (by decide) rfl rfl ?_
  dsimp only [List.set]
  exact lp_ch G ivs ivo ivv o ho b hb (nf s (sh s o) + 1) 0 _ _ _ (by omega) (by omega) (Mod.rf r)
