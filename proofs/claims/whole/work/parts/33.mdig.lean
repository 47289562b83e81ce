/-! holders, digest of the reference -/
def hdL (s : Mem) (u : Int32) (y : Nat) : Nat → Int32
  | 0 => 0
  | i + 1 => hdL s u y i + (if s.2 11 (6 * y + i) = u then 1 else 0)
def hdF (s : Mem) (u : Int32) (o : Nat) : Nat → Int32
  | 0 => 0
  | f + 1 => hdF s u o f + ((if s.2 3 (8 * sh s o + f) = 1 ∧ s.2 10 (8 * o + f) = u then 1 else 0) + (if s.2 3 (8 * sh s o + f) = 2 then hdL s u (8 * o + f) (s.2 10 (8 * o + f)).toNatClampNeg else 0))
def hdO (s : Mem) (u : Int32) : Nat → Int32
  | 0 => 0
  | o + 1 => hdO s u o + hdF s u o (nf s (sh s o))
theorem ix6' (y i : Nat) : (6 : Int32) * nI y + nI i = nI (6 * y + i) := ix6 y i
theorem lp_hd3 (G : Gk) {h : Hp} {m : Nat} {am : Nat → Nat} {s : Mem} (r : RepM h m am s) (ivo : IvO s) (u : Int32) (o f : Nat) (ho : o < nO s) (hf : f < 8) (len : Nat) (h6 : len ≤ 6) (hl : s.2 10 (8 * o + f) = nI len) (B : Int32) (post : Option Value → Hp → Prop) (K : ∀ l6, V G md_holders post h 0 0 148 [some (.ref m), some (.int u), some (.int (B + hdL s u (8 * o + f) len)), some (.int (nI o)), some (.int (nI f)), some (.int 2), l6] []) : ∀ (c i : Nat), i + c = len →
    V G md_holders post h 0 0 89 [some (.ref m), some (.int u), some (.int (B + hdL s u (8 * o + f) i)), some (.int (nI o)), some (.int (nI f)), some (.int 2), some (.int (nI i))] [] := by
  have h60 := ivo.2.1
  intro c
  induction c with
  | zero =>
    intro i hi
    refine V_iload d_md_holders_89 rfl ?_
    refine V_iconst (v := 2) d_md_holders_91 (by decide) ?_
    refine V_icmp_ne d_md_holders_92 (fun c92 => ?_) (fun c92 => ?_)
    · skip
      exact absurd rfl c92
    · skip
      refine V_iload d_md_holders_95 rfl ?_
      refine V_aload_n d_md_holders_97 rfl rfl ?_
      refine V_getf d_md_holders_98 fl_md_34 r.obj rfl ?_
      refine V_aload_n d_md_holders_101 rfl rfl ?_
      refine V_iload_n d_md_holders_102 rfl rfl ?_
      refine V_iload d_md_holders_103 rfl ?_
      refine V_callV (N := md_at) d_md_holders_105 ml_md_152 mdf_md_at wi_md_at wz_md_at (sp_md_at G _ _ _ _) r.obj ⟨_, rfl, rfl⟩ rfl rfl (by decide) (by decide) (Nat.le_of_ble_eq_true rfl) rfl rfl (kI fun r105 h105 ⟨e105, f105⟩ => ?_)
      subst e105 f105
      refine V_mald r d_md_holders_108 (by first | with_reducible rfl | exact ix8 _ _ | exact ix6 _ _ | assumption) rfl rfl (by show _ < 480; omega) ?_
      rw [hl]
      refine V_icmp_ge d_md_holders_109 (fun c109 => ?_) (fun c109 => ?_)
      · skip
        obtain rfl : i = len := by omega
        exact K _
      · skip
        exact absurd (ltN c109 (by omega)) (by omega)
  | succ c ih =>
    intro i hi
    refine V_iload d_md_holders_89 rfl ?_
    refine V_iconst (v := 2) d_md_holders_91 (by decide) ?_
    refine V_icmp_ne d_md_holders_92 (fun c92 => ?_) (fun c92 => ?_)
    · skip
      exact absurd rfl c92
    · skip
      refine V_iload d_md_holders_95 rfl ?_
      refine V_aload_n d_md_holders_97 rfl rfl ?_
      refine V_getf d_md_holders_98 fl_md_34 r.obj rfl ?_
      refine V_aload_n d_md_holders_101 rfl rfl ?_
      refine V_iload_n d_md_holders_102 rfl rfl ?_
      refine V_iload d_md_holders_103 rfl ?_
      refine V_callV (N := md_at) d_md_holders_105 ml_md_152 mdf_md_at wi_md_at wz_md_at (sp_md_at G _ _ _ _) r.obj ⟨_, rfl, rfl⟩ rfl rfl (by decide) (by decide) (Nat.le_of_ble_eq_true rfl) rfl rfl (kI fun r105 h105 ⟨e105, f105⟩ => ?_)
      subst e105 f105
      refine V_mald r d_md_holders_108 (by first | with_reducible rfl | exact ix8 _ _ | exact ix6 _ _ | assumption) rfl rfl (by show _ < 480; omega) ?_
      rw [hl]
      refine V_icmp_ge d_md_holders_109 (fun c109 => ?_) (fun c109 => ?_)
      · skip
        exact absurd (geN c109 (by omega)) (by omega)
      · skip
        refine V_iload_n d_md_holders_112 rfl rfl ?_
        refine V_aload_n d_md_holders_113 rfl rfl ?_
        refine V_getf d_md_holders_114 fl_md_37 r.obj rfl ?_
        refine V_bipush (v := 6) d_md_holders_117 (by decide) ?_
        refine V_aload_n d_md_holders_119 rfl rfl ?_
        refine V_iload_n d_md_holders_120 rfl rfl ?_
        refine V_iload d_md_holders_121 rfl ?_
        refine V_callV (N := md_at) d_md_holders_123 ml_md_152 mdf_md_at wi_md_at wz_md_at (sp_md_at G _ _ _ _) r.obj ⟨_, rfl, rfl⟩ rfl rfl (by decide) (by decide) (Nat.le_of_ble_eq_true rfl) rfl rfl (kI fun r123 h123 ⟨e123, f123⟩ => ?_)
        subst e123 f123
        refine V_imul d_md_holders_126 ?_
        refine V_iload d_md_holders_127 rfl ?_
        refine V_iadd d_md_holders_129 ?_
        rw [ix6]
        refine V_mald r d_md_holders_130 (by first | with_reducible rfl | exact ix8 _ _ | exact ix6 _ _ | assumption) rfl rfl (by show _ < 2880; omega) ?_
        refine V_iload_n d_md_holders_131 rfl rfl ?_
        refine V_icmp_ne d_md_holders_132 (fun c132 => ?_) (fun c132 => ?_)
        · skip
          refine V_iconst (v := 0) d_md_holders_139 (by decide) ?_
          refine V_iadd d_md_holders_140 ?_
          refine V_istore_n d_md_holders_141 rfl (by decide) rfl rfl ?_
          dsimp only [List.set]
          refine V_iinc (v := _) d_md_holders_142 rfl rfl (by decide) rfl rfl ?_
          dsimp only [List.set]
          refine V_goto d_md_holders_145 ?_
          rw [show Int32.ofInt 1 = 1 from rfl, nI_1, Int32.add_assoc]
          have := ih (i + 1) (by omega)
          rw [hdL, if_neg c132] at this
          exact this
        · skip
          refine V_iconst (v := 1) d_md_holders_135 (by decide) ?_
          refine V_goto d_md_holders_136 ?_
          refine V_iadd d_md_holders_140 ?_
          refine V_istore_n d_md_holders_141 rfl (by decide) rfl rfl ?_
          dsimp only [List.set]
          refine V_iinc (v := _) d_md_holders_142 rfl rfl (by decide) rfl rfl ?_
          dsimp only [List.set]
          refine V_goto d_md_holders_145 ?_
          rw [show Int32.ofInt 1 = 1 from rfl, nI_1, Int32.add_assoc]
          have := ih (i + 1) (by omega)
          rw [hdL, if_pos c132] at this
          exact this
theorem lp_hd2 (G : Gk) {h : Hp} {m : Nat} {am : Nat → Nat} {s : Mem} (r : RepM h m am s) (ivs : IvS s) (ivo : IvO s) (ivv : IvV s) (u : Int32) (A : Int32) (o : Nat) (ho : o < nO s) (post : Option Value → Hp → Prop) (K : ∀ l4 l5 l6, V G md_holders post h 0 0 154 [some (.ref m), some (.int u), some (.int (A + hdF s u o (nf s (sh s o)))), some (.int (nI o)), l4, l5, l6] []) : ∀ (c f : Nat) (l5 l6 : Option Value), f + c = nf s (sh s o) →
    V G md_holders post h 0 0 26 [some (.ref m), some (.int u), some (.int (A + hdF s u o f)), some (.int (nI o)), some (.int (nI f)), l5, l6] [] := by
  have h10 := ivs.2.1
  have h60 := ivo.2.1
  obtain ⟨hs1, hs2⟩ := ivo.2.2 o ho
  obtain ⟨hf1, hf8⟩ := ivs.2.2.1 _ hs2
  have hoo : IvO s ∧ o < nO s := ⟨ivo, ho⟩
  intro c
  induction c with
  | zero =>
    intro f l5 l6 hf
    refine V_iload d_md_holders_26 rfl ?_
    refine V_aload_n d_md_holders_28 rfl rfl ?_
    refine V_getf d_md_holders_29 fl_md_13 r.obj rfl ?_
    refine V_aload_n d_md_holders_32 rfl rfl ?_
    refine V_getf d_md_holders_33 fl_md_31 r.obj rfl ?_
    refine V_iload_n d_md_holders_36 rfl rfl ?_
    refine V_mald r d_md_holders_37 (by first | with_reducible rfl | exact ix8 _ _ | exact ix6 _ _ | assumption) rfl rfl (by show _ < 60; omega) ?_
    rw [hs1]
    refine V_mald r d_md_holders_38 (by first | with_reducible rfl | exact ix8 _ _ | exact ix6 _ _ | assumption) rfl rfl (by show _ < 10; omega) ?_
    rw [hf1]
    refine V_icmp_ge d_md_holders_39 (fun c39 => ?_) (fun c39 => ?_)
    · skip
      obtain rfl : f = nf s (sh s o) := by omega
      exact K _ _ _
    · skip
      exact absurd (ltN c39 (by omega)) (by omega)
  | succ c ih =>
    intro f l5 l6 hf
    have nxt : ∀ (B : Int32) (l5 l6 : Option Value), B = A + hdF s u o (f + 1) → V G md_holders post h 0 0 148 [some (.ref m), some (.int u), some (.int B), some (.int (nI o)), some (.int (nI f)), l5, l6] [] := by
      intro B l5 l6 hB
      subst hB
      refine V_iinc (v := _) d_md_holders_148 rfl rfl (by decide) rfl rfl ?_
      dsimp only [List.set]
      refine V_goto d_md_holders_151 ?_
      rw [show Int32.ofInt 1 = 1 from rfl, nI_1]
      exact ih (f + 1) _ _ (by omega)
    have lst : ∀ (b k : Int32), s.2 3 (8 * sh s o + f) = k → (b = if k = 1 ∧ s.2 10 (8 * o + f) = u then 1 else 0) → V G md_holders post h 0 0 89 [some (.ref m), some (.int u), some (.int (A + hdF s u o f + b)), some (.int (nI o)), some (.int (nI f)), some (.int k), some (.int (nI 0))] [] := by
      intro b k hk hb
      by_cases h2 : k = 2
      · subst h2
        obtain ⟨len, h6, hl, -⟩ := (ivv o ho f (by omega)).2 hk
        have key := lp_hd3 G r ivo u o f ho (by omega) len h6 hl (A + hdF s u o f + b) post (fun l6 => nxt _ _ _ (by rw [hdF, hk, ← hb, if_pos rfl, hl, cl len (by omega), Int32.add_assoc, Int32.add_assoc])) len 0 (by omega)
        rw [show hdL s u (8 * o + f) 0 = 0 from rfl, Int32.add_zero] at key
        exact key
      · skip
        refine V_iload d_md_holders_89 rfl ?_
        refine V_iconst (v := 2) d_md_holders_91 (by decide) ?_
        refine V_icmp_ne d_md_holders_92 (fun c92 => ?_) (fun c92 => ?_)
        · skip
          exact nxt _ _ _ (by rw [hdF, hk, ← hb, if_neg h2, Int32.add_zero, Int32.add_assoc])
        · skip
          exact absurd c92 h2
    refine V_iload d_md_holders_26 rfl ?_
    refine V_aload_n d_md_holders_28 rfl rfl ?_
    refine V_getf d_md_holders_29 fl_md_13 r.obj rfl ?_
    refine V_aload_n d_md_holders_32 rfl rfl ?_
    refine V_getf d_md_holders_33 fl_md_31 r.obj rfl ?_
    refine V_iload_n d_md_holders_36 rfl rfl ?_
    refine V_mald r d_md_holders_37 (by first | with_reducible rfl | exact ix8 _ _ | exact ix6 _ _ | assumption) rfl rfl (by show _ < 60; omega) ?_
    rw [hs1]
    refine V_mald r d_md_holders_38 (by first | with_reducible rfl | exact ix8 _ _ | exact ix6 _ _ | assumption) rfl rfl (by show _ < 10; omega) ?_
    rw [hf1]
    refine V_icmp_ge d_md_holders_39 (fun c39 => ?_) (fun c39 => ?_)
    · skip
      exact absurd (geN c39 (by omega)) (by omega)
    · skip
      refine V_aload_n d_md_holders_42 rfl rfl ?_
      refine V_getf d_md_holders_43 fl_md_16 r.obj rfl ?_
      refine V_aload_n d_md_holders_46 rfl rfl ?_
      refine V_iload_n d_md_holders_47 rfl rfl ?_
      refine V_iload d_md_holders_48 rfl ?_
      refine V_callV (N := md_by) d_md_holders_50 ml_md_156 mdf_md_by wi_md_by wz_md_by (sp_md_by G r _ _ (by first | assumption | exact ⟨by assumption, by assumption⟩)) r.obj ⟨_, rfl, rfl⟩ rfl rfl (by decide) (by decide) (Nat.le_of_ble_eq_true rfl) rfl rfl (kI fun r50 h50 ⟨e50, f50⟩ => ?_)
      subst e50 f50
      refine V_mald r d_md_holders_53 (by first | with_reducible rfl | exact ix8 _ _ | exact ix6 _ _ | assumption) rfl rfl (by show _ < 80; omega) ?_
      refine V_istore d_md_holders_54 (by decide) rfl rfl ?_
      dsimp only [List.set]
      refine V_iload_n d_md_holders_56 rfl rfl ?_
      refine V_iload d_md_holders_57 rfl ?_
      refine V_iconst (v := 1) d_md_holders_59 (by decide) ?_
      refine V_icmp_ne d_md_holders_60 (fun c60 => ?_) (fun c60 => ?_)
      · skip
        refine V_iconst (v := 0) d_md_holders_83 (by decide) ?_
        refine V_iadd d_md_holders_84 ?_
        refine V_istore_n d_md_holders_85 rfl (by decide) rfl rfl ?_
        dsimp only [List.set]
        refine V_iconst (v := 0) d_md_holders_86 (by decide) ?_
        refine V_istore d_md_holders_87 (by decide) rfl rfl ?_
        dsimp only [List.set]
        exact lst 0 _ rfl (by rw [if_neg (fun q => c60 q.1)])
      · skip
        refine V_aload_n d_md_holders_63 rfl rfl ?_
        refine V_getf d_md_holders_64 fl_md_34 r.obj rfl ?_
        refine V_aload_n d_md_holders_67 rfl rfl ?_
        refine V_iload_n d_md_holders_68 rfl rfl ?_
        refine V_iload d_md_holders_69 rfl ?_
        refine V_callV (N := md_at) d_md_holders_71 ml_md_152 mdf_md_at wi_md_at wz_md_at (sp_md_at G _ _ _ _) r.obj ⟨_, rfl, rfl⟩ rfl rfl (by decide) (by decide) (Nat.le_of_ble_eq_true rfl) rfl rfl (kI fun r71 h71 ⟨e71, f71⟩ => ?_)
        subst e71 f71
        refine V_mald r d_md_holders_74 (by first | with_reducible rfl | exact ix8 _ _ | exact ix6 _ _ | assumption) rfl rfl (by show _ < 480; omega) ?_
        refine V_iload_n d_md_holders_75 rfl rfl ?_
        refine V_icmp_ne d_md_holders_76 (fun c76 => ?_) (fun c76 => ?_)
        · skip
          refine V_iconst (v := 0) d_md_holders_83 (by decide) ?_
          refine V_iadd d_md_holders_84 ?_
          refine V_istore_n d_md_holders_85 rfl (by decide) rfl rfl ?_
          dsimp only [List.set]
          refine V_iconst (v := 0) d_md_holders_86 (by decide) ?_
          refine V_istore d_md_holders_87 (by decide) rfl rfl ?_
          dsimp only [List.set]
          exact lst 0 _ rfl (by rw [if_neg (fun q => c76 q.2)])
        · skip
          refine V_iconst (v := 1) d_md_holders_79 (by decide) ?_
          refine V_goto d_md_holders_80 ?_
          refine V_iadd d_md_holders_84 ?_
          refine V_istore_n d_md_holders_85 rfl (by decide) rfl rfl ?_
          dsimp only [List.set]
          refine V_iconst (v := 0) d_md_holders_86 (by decide) ?_
          refine V_istore d_md_holders_87 (by decide) rfl rfl ?_
          dsimp only [List.set]
          exact lst 1 _ rfl (by rw [if_pos ⟨c60, c76⟩])
theorem lp_hd1 (G : Gk) {h : Hp} {m : Nat} {am : Nat → Nat} {s : Mem} (r : RepM h m am s) (ivs : IvS s) (ivo : IvO s) (ivv : IvV s) (u : Int32) : ∀ (c o : Nat) (l4 l5 l6 : Option Value), o + c = nO s →
    V G md_holders (pI fun r h' => h = h' ∧ r = hdO s u (nO s)) h 0 0 15 [some (.ref m), some (.int u), some (.int (hdO s u o)), some (.int (nI o)), l4, l5, l6] [] := by
  have h60 := ivo.2.1
  intro c
  induction c with
  | zero =>
    intro o l4 l5 l6 ho
    refine V_iload_n d_md_holders_15 rfl rfl ?_
    refine V_aload_n d_md_holders_16 rfl rfl ?_
    refine V_getf d_md_holders_17 fl_md_122 r.obj rfl ?_
    rw [ivo.1]
    refine V_icmp_ge d_md_holders_20 (fun c20 => ?_) (fun c20 => ?_)
    · skip
      refine V_iload_n d_md_holders_160 rfl rfl ?_
      refine V_ireturn d_md_holders_161 rfl ?_
      obtain rfl : o = nO s := by omega
      exact ⟨_, rfl, rfl, rfl⟩
    · skip
      exact absurd (ltN c20 (by omega)) (by omega)
  | succ c ih =>
    intro o l4 l5 l6 ho
    refine V_iload_n d_md_holders_15 rfl rfl ?_
    refine V_aload_n d_md_holders_16 rfl rfl ?_
    refine V_getf d_md_holders_17 fl_md_122 r.obj rfl ?_
    rw [ivo.1]
    refine V_icmp_ge d_md_holders_20 (fun c20 => ?_) (fun c20 => ?_)
    · skip
      exact absurd (geN c20 (by omega)) (by omega)
    · skip
      refine V_iconst (v := 0) d_md_holders_23 (by decide) ?_
      refine V_istore d_md_holders_24 (by decide) rfl rfl ?_
      dsimp only [List.set]
      have key := lp_hd2 G r ivs ivo ivv u (hdO s u o) o (by omega) (pI fun r h' => h = h' ∧ r = hdO s u (nO s)) (fun l4 l5 l6 => ?_) (nf s (sh s o)) 0 l5 l6 (by omega)
      · (rw [show hdO s u o + hdF s u o 0 = hdO s u o from Int32.add_zero _] at key; exact key)
      refine V_iinc d_md_holders_154 rfl rfl (by decide) rfl rfl ?_
      dsimp only [List.set]
      refine V_goto d_md_holders_157 ?_
      rw [show Int32.ofInt 1 = 1 from rfl, nI_1]
      exact ih (o + 1) _ _ _ (by omega)
theorem sp_md_holders (G : Gk) {h : Hp} {m : Nat} {am : Nat → Nat} {s : Mem} (r : RepM h m am s) (ivs : IvS s) (ivo : IvO s) (ivv : IvV s) (v : Int32) : Ct G md_holders [.ref m, .int v] h (pI fun r h' => h = h' ∧ ((¬ isOb s v ∧ r = -2) ∨ (isOb s v ∧ r = hdO s v (nO s)))) := by
  refine Ct.ofL (M := md_holders) (lv := [some (.ref m), some (.int v), none, none, none, none, none]) mdf_md_holders rfl (Nat.le_of_ble_eq_true rfl) rfl ?_
  refine V_aload_n d_md_holders_0 rfl rfl ?_
  refine V_iload_n d_md_holders_1 rfl rfl ?_
  refine V_callV (N := md_isObject) d_md_holders_2 ml_md_149 mdf_md_isObject wi_md_isObject wz_md_isObject (sp_md_isObject G r _) r.obj ⟨_, rfl, rfl⟩ rfl rfl (by decide) (by decide) (Nat.le_of_ble_eq_true rfl) rfl rfl (kI fun r2 h2 ⟨e2, f2⟩ => ?_)
  subst e2 f2
  refine V_if_ne d_md_holders_5 (fun c5 => ?_) (fun c5 => ?_)
  · skip
    refine V_iconst (v := 0) d_md_holders_11 (by decide) ?_
    refine V_istore_n d_md_holders_12 rfl (by decide) rfl rfl ?_
    dsimp only [List.set]
    refine V_iconst (v := 0) d_md_holders_13 (by decide) ?_
    refine V_istore_n d_md_holders_14 rfl (by decide) rfl rfl ?_
    dsimp only [List.set]
    refine V.mono (lp_hd1 G r ivs ivo ivv v (nO s) 0 _ _ _ (by omega)) (fun v' h' q => ?_)
    obtain ⟨r', q1, q2, q3⟩ := q
    exact ⟨r', q1, q2, Or.inr ⟨b01_ne c5, q3⟩⟩
  · skip
    refine V_bipush (v := -2) d_md_holders_8 (by decide) ?_
    refine V_ireturn d_md_holders_10 rfl ?_
    exact ⟨_, rfl, rfl, Or.inl ⟨b01_e c5, rfl⟩⟩
def dgL (s : Mem) (y : Nat) (a : Int64) : Nat → Int64
  | 0 => a
  | i + 1 => 31 * dgL s y a i + (s.2 11 (6 * y + i)).toInt64
def dgF (s : Mem) (o : Nat) (a : Int64) : Nat → Int64
  | 0 => a
  | f + 1 => if s.2 3 (8 * sh s o + f) = 2 then dgL s (8 * o + f) (31 * dgF s o a f + (valV s o f).toInt64) (s.2 10 (8 * o + f)).toNatClampNeg else 31 * dgF s o a f + (valV s o f).toInt64
def dgO (s : Mem) : Nat → Int64
  | 0 => 71
  | o + 1 => dgF s o (31 * dgO s o + (s.2 9 o).toInt64) (nf s (sh s o))
theorem valV_plain {s : Mem} {o f : Nat} (h : s.2 3 (8 * sh s o + f) ≠ 3) : valV s o f = s.2 10 (8 * o + f) := by
  unfold valV kn
  rw [pk_us, if_neg h]
theorem Sc.val {s t : Mem} (h : Sc s t) (o j : Nat) : valV t o j = valV s o j := valV_congr (h.2 3 rfl) (h.2 4 rfl) (h.2 5 rfl) (h.2 6 rfl) (h.2 9 rfl) (h.2 10 rfl) (h.2 11 rfl) o j
theorem lp_dg3 (G : Gk) {m : Nat} {am : Nat → Nat} {h0 h : Hp} {s t : Mem} (hM : Mod h0 m am h t) (hS : Sc s t) (ivo : IvO s) (o f : Nat) (ho : o < nO s) (hf : f < 8) (hs : s.2 9 o = nI (sh s o)) (hs10 : sh s o < 10) (len : Nat) (h6 : len ≤ 6) (hk : s.2 3 (8 * sh s o + f) = 2) (B : Int64) (post : Option Value → Hp → Prop) (K : ∀ l5 l6, V G md_digest post h 0 0 124 [some (.ref m), some (.long (dgL s (8 * o + f) B len)), none, some (.int (nI o)), some (.int (nI f)), l5, l6] []) : ∀ (c i : Nat), i + c = len →
    V G md_digest post h 0 0 69 [some (.ref m), some (.long (dgL s (8 * o + f) B i)), none, some (.int (nI o)), some (.int (nI f)), some (.int (nI len)), some (.int (nI i))] [] := by
  have h60 := ivo.2.1
  have r := hM.1
  have e9 : t.2 9 o = nI (sh s o) := by rw [hS.2 9 rfl]; exact hs
  intro c
  induction c with
  | zero =>
    intro i hi
    refine V_aload_n d_md_digest_69 rfl rfl ?_
    refine V_getf d_md_digest_70 fl_md_16 r.obj rfl ?_
    refine V_aload_n d_md_digest_73 rfl rfl ?_
    refine V_iload_n d_md_digest_74 rfl rfl ?_
    refine V_iload d_md_digest_75 rfl ?_
    refine V_callV (N := md_by) d_md_digest_77 ml_md_156 mdf_md_by wi_md_by wz_md_by (sp_md_by' G r o f (sh s o) (by omega) e9) r.obj ⟨_, rfl, rfl⟩ rfl rfl (by decide) (by decide) (Nat.le_of_ble_eq_true rfl) rfl rfl (kI fun r77 h77 ⟨e77, f77⟩ => ?_)
    subst e77 f77
    refine V_mald r d_md_digest_80 (by first | with_reducible rfl | exact ix8 _ _ | exact ix6 _ _ | assumption) rfl rfl (by show _ < 80; omega) ?_
    rw [hS.2 3 rfl]
    refine V_iconst (v := 2) d_md_digest_81 (by decide) ?_
    refine V_icmp_ne d_md_digest_82 (fun c82 => ?_) (fun c82 => ?_)
    · skip
      exact absurd hk c82
    · skip
      refine V_iload d_md_digest_85 rfl ?_
      refine V_iload d_md_digest_87 rfl ?_
      refine V_icmp_ge d_md_digest_89 (fun c89 => ?_) (fun c89 => ?_)
      · skip
        obtain rfl : i = len := by omega
        exact K _ _
      · skip
        exact absurd (ltN c89 (by omega)) (by omega)
  | succ c ih =>
    intro i hi
    refine V_aload_n d_md_digest_69 rfl rfl ?_
    refine V_getf d_md_digest_70 fl_md_16 r.obj rfl ?_
    refine V_aload_n d_md_digest_73 rfl rfl ?_
    refine V_iload_n d_md_digest_74 rfl rfl ?_
    refine V_iload d_md_digest_75 rfl ?_
    refine V_callV (N := md_by) d_md_digest_77 ml_md_156 mdf_md_by wi_md_by wz_md_by (sp_md_by' G r o f (sh s o) (by omega) e9) r.obj ⟨_, rfl, rfl⟩ rfl rfl (by decide) (by decide) (Nat.le_of_ble_eq_true rfl) rfl rfl (kI fun r77 h77 ⟨e77, f77⟩ => ?_)
    subst e77 f77
    refine V_mald r d_md_digest_80 (by first | with_reducible rfl | exact ix8 _ _ | exact ix6 _ _ | assumption) rfl rfl (by show _ < 80; omega) ?_
    rw [hS.2 3 rfl]
    refine V_iconst (v := 2) d_md_digest_81 (by decide) ?_
    refine V_icmp_ne d_md_digest_82 (fun c82 => ?_) (fun c82 => ?_)
    · skip
      exact absurd hk c82
    · skip
      refine V_iload d_md_digest_85 rfl ?_
      refine V_iload d_md_digest_87 rfl ?_
      refine V_icmp_ge d_md_digest_89 (fun c89 => ?_) (fun c89 => ?_)
      · skip
        exact absurd (geN c89 (by omega)) (by omega)
      · skip
        refine V_ldc2 d_md_digest_92 kc_md_300 ?_
        refine V_lload_n d_md_digest_95 rfl rfl ?_
        refine V_lmul d_md_digest_96 ?_
        refine V_aload_n d_md_digest_97 rfl rfl ?_
        refine V_getf d_md_digest_98 fl_md_37 r.obj rfl ?_
        refine V_bipush (v := 6) d_md_digest_101 (by decide) ?_
        refine V_aload_n d_md_digest_103 rfl rfl ?_
        refine V_iload_n d_md_digest_104 rfl rfl ?_
        refine V_iload d_md_digest_105 rfl ?_
        refine V_callV (N := md_at) d_md_digest_107 ml_md_152 mdf_md_at wi_md_at wz_md_at (sp_md_at G _ _ _ _) r.obj ⟨_, rfl, rfl⟩ rfl rfl (by decide) (by decide) (Nat.le_of_ble_eq_true rfl) rfl rfl (kI fun r107 h107 ⟨e107, f107⟩ => ?_)
        subst e107 f107
        refine V_imul d_md_digest_110 ?_
        refine V_iload d_md_digest_111 rfl ?_
        refine V_iadd d_md_digest_113 ?_
        rw [ix6]
        refine V_mald r d_md_digest_114 (by first | with_reducible rfl | exact ix8 _ _ | exact ix6 _ _ | assumption) rfl rfl (by show _ < 2880; omega) ?_
        rw [hS.2 11 rfl]
        refine V_i2l d_md_digest_115 ?_
        refine V_ladd d_md_digest_116 ?_
        refine V_lstore_n d_md_digest_117 rfl (by decide) rfl rfl ?_
        dsimp only [List.set]
        refine V_iinc (v := _) d_md_digest_118 rfl rfl (by decide) rfl rfl ?_
        dsimp only [List.set]
        refine V_goto d_md_digest_121 ?_
        rw [show Int32.ofInt 1 = 1 from rfl, nI_1]
        exact ih (i + 1) (by omega)
theorem lp_dg2 (G : Gk) {m : Nat} {am : Nat → Nat} {h0 : Hp} {s : Mem} (ivs : IvS s) (ivo : IvO s) (ivf : IvF s) (ivv : IvV s) (o : Nat) (ho : o < nO s) (A : Int64) (post : Option Value → Hp → Prop) (K : ∀ h t l4 l5 l6, Mod h0 m am h t → Sc s t → V G md_digest post h 0 0 130 [some (.ref m), some (.long (dgF s o A (nf s (sh s o)))), none, some (.int (nI o)), l4, l5, l6] []) : ∀ (c f : Nat) (h : Hp) (t : Mem) (l5 l6 : Option Value), f + c = nf s (sh s o) → Mod h0 m am h t → Sc s t →
    V G md_digest post h 0 0 31 [some (.ref m), some (.long (dgF s o A f)), none, some (.int (nI o)), some (.int (nI f)), l5, l6] [] := by
  have h10 := ivs.2.1
  have h60 := ivo.2.1
  obtain ⟨hs1, hs2⟩ := ivo.2.2 o ho
  obtain ⟨hf1, hf8⟩ := ivs.2.2.1 _ hs2
  intro c
  induction c with
  | zero =>
    intro f h t l5 l6 hf hM hS
    have r := hM.1
    refine V_iload d_md_digest_31 rfl ?_
    refine V_aload_n d_md_digest_33 rfl rfl ?_
    refine V_getf d_md_digest_34 fl_md_13 r.obj rfl ?_
    refine V_aload_n d_md_digest_37 rfl rfl ?_
    refine V_getf d_md_digest_38 fl_md_31 r.obj rfl ?_
    refine V_iload_n d_md_digest_41 rfl rfl ?_
    refine V_mald r d_md_digest_42 (by first | with_reducible rfl | exact ix8 _ _ | exact ix6 _ _ | assumption) rfl rfl (by show _ < 60; omega) ?_
    rw [hS.2 9 rfl, hs1]
    refine V_mald r d_md_digest_43 (by first | with_reducible rfl | exact ix8 _ _ | exact ix6 _ _ | assumption) rfl rfl (by show _ < 10; omega) ?_
    rw [hS.2 2 rfl, hf1]
    refine V_icmp_ge d_md_digest_44 (fun c44 => ?_) (fun c44 => ?_)
    · skip
      obtain rfl : f = nf s (sh s o) := by omega
      exact K _ _ _ _ _ hM hS
    · skip
      exact absurd (ltN c44 (by omega)) (by omega)
  | succ c ih =>
    intro f h t l5 l6 hf hM hS
    have r := hM.1
    have eO : nO t = nO s := by unfold nO; rw [hS.1 8 rfl]
    have eF : nf t (sh t o) = nf s (sh s o) := by unfold nf sh; rw [hS.2 2 rfl, hS.2 9 rfl]
    have nxt : ∀ (B : Int64) (h1 : Hp) (t1 : Mem) (l5 l6 : Option Value), Mod h0 m am h1 t1 → Sc s t1 → B = dgF s o A (f + 1) → V G md_digest post h1 0 0 124 [some (.ref m), some (.long B), none, some (.int (nI o)), some (.int (nI f)), l5, l6] [] := by
      intro B h1 t1 l5 l6 M1 S1 hB
      subst hB
      refine V_iinc (v := _) d_md_digest_124 rfl rfl (by decide) rfl rfl ?_
      dsimp only [List.set]
      refine V_goto d_md_digest_127 ?_
      rw [show Int32.ofInt 1 = 1 from rfl, nI_1]
      exact ih (f + 1) _ _ _ _ (by omega) M1 S1
    have lst : ∀ (h1 : Hp) (t1 : Mem), Mod h0 m am h1 t1 → Sc s t1 → V G md_digest post h1 0 0 69 [some (.ref m), some (.long (31 * dgF s o A f + (valV s o f).toInt64)), none, some (.int (nI o)), some (.int (nI f)), some (.int (valV s o f)), some (.int (nI 0))] [] := by
      intro h1 t1 M1 S1
      have R1 := M1.1
      by_cases h2 : s.2 3 (8 * sh s o + f) = 2
      · obtain ⟨len, h6, hl, -⟩ := (ivv o ho f (by omega)).2 h2
        have ev : valV s o f = nI len := by rw [valV_plain (by rw [h2]; decide), hl]
        have key := lp_dg3 G M1 S1 ivo o f ho (by omega) hs1 (by omega) len h6 h2 (31 * dgF s o A f + (valV s o f).toInt64) post (fun l5 l6 => nxt _ _ _ _ _ M1 S1 (by rw [dgF, if_pos h2, hl, cl len (by omega)])) len 0 (by omega)
        rw [← ev] at key
        exact key
      · have e9 : t1.2 9 o = nI (sh s o) := by rw [S1.2 9 rfl]; exact hs1
        refine V_aload_n d_md_digest_69 rfl rfl ?_
        refine V_getf d_md_digest_70 fl_md_16 R1.obj rfl ?_
        refine V_aload_n d_md_digest_73 rfl rfl ?_
        refine V_iload_n d_md_digest_74 rfl rfl ?_
        refine V_iload d_md_digest_75 rfl ?_
        refine V_callV (N := md_by) d_md_digest_77 ml_md_156 mdf_md_by wi_md_by wz_md_by (sp_md_by' G R1 o f (sh s o) (by omega) e9) R1.obj ⟨_, rfl, rfl⟩ rfl rfl (by decide) (by decide) (Nat.le_of_ble_eq_true rfl) rfl rfl (kI fun r77 h77 ⟨e77, f77⟩ => ?_)
        subst e77 f77
        refine V_mald R1 d_md_digest_80 (by first | with_reducible rfl | exact ix8 _ _ | exact ix6 _ _ | assumption) rfl rfl (by show _ < 80; omega) ?_
        rw [S1.2 3 rfl]
        refine V_iconst (v := 2) d_md_digest_81 (by decide) ?_
        refine V_icmp_ne d_md_digest_82 (fun c82 => ?_) (fun c82 => ?_)
        · skip
          exact nxt _ _ _ _ _ M1 S1 (by rw [dgF, if_neg h2])
        · skip
          exact absurd c82 h2
    refine V_iload d_md_digest_31 rfl ?_
    refine V_aload_n d_md_digest_33 rfl rfl ?_
    refine V_getf d_md_digest_34 fl_md_13 r.obj rfl ?_
    refine V_aload_n d_md_digest_37 rfl rfl ?_
    refine V_getf d_md_digest_38 fl_md_31 r.obj rfl ?_
    refine V_iload_n d_md_digest_41 rfl rfl ?_
    refine V_mald r d_md_digest_42 (by first | with_reducible rfl | exact ix8 _ _ | exact ix6 _ _ | assumption) rfl rfl (by show _ < 60; omega) ?_
    rw [hS.2 9 rfl, hs1]
    refine V_mald r d_md_digest_43 (by first | with_reducible rfl | exact ix8 _ _ | exact ix6 _ _ | assumption) rfl rfl (by show _ < 10; omega) ?_
    rw [hS.2 2 rfl, hf1]
    refine V_icmp_ge d_md_digest_44 (fun c44 => ?_) (fun c44 => ?_)
    · skip
      exact absurd (geN c44 (by omega)) (by omega)
    · skip
      refine V_aload_n d_md_digest_47 rfl rfl ?_
      refine V_iload_n d_md_digest_48 rfl rfl ?_
      refine V_iload d_md_digest_49 rfl ?_
      refine V_callV (N := md_valueOf) d_md_digest_51 ml_md_172 mdf_md_valueOf wi_md_valueOf wz_md_valueOf (sp_md_valueOf G r (ivs.sc hS) (ivo.sc hS) (ivf.sc hS) (ivv.sc hS) o f (by rw [eO]; exact ho) (by rw [eF]; omega)) r.obj ⟨_, rfl, rfl⟩ rfl rfl (by decide) (by decide) (Nat.le_of_ble_eq_true rfl) rfl rfl (kI fun r51 h51 ⟨K, M51, e51⟩ => ?_)
      subst e51
      rw [hS.val]
      refine V_istore d_md_digest_54 (by decide) rfl rfl ?_
      dsimp only [List.set]
      refine V_ldc2 d_md_digest_56 kc_md_300 ?_
      refine V_lload_n d_md_digest_59 rfl rfl ?_
      refine V_lmul d_md_digest_60 ?_
      refine V_iload d_md_digest_61 rfl ?_
      refine V_i2l d_md_digest_63 ?_
      refine V_ladd d_md_digest_64 ?_
      refine V_lstore_n d_md_digest_65 rfl (by decide) rfl rfl ?_
      dsimp only [List.set]
      refine V_iconst (v := 0) d_md_digest_66 (by decide) ?_
      refine V_istore d_md_digest_67 (by decide) rfl rfl ?_
      dsimp only [List.set]
      exact lst _ _ (hM.trans M51) (hS.trans (Sc.sK t K))
theorem lp_dg1 (G : Gk) {m : Nat} {am : Nat → Nat} {h0 : Hp} {s : Mem} (ivs : IvS s) (ivo : IvO s) (ivf : IvF s) (ivv : IvV s) (post : Option Value → Hp → Prop) (K : ∀ h t l3 l4 l5 l6, Mod h0 m am h t → Sc s t → V G md_digest post h 0 0 136 [some (.ref m), some (.long (dgO s (nO s))), none, l3, l4, l5, l6] []) : ∀ (c o : Nat) (h : Hp) (t : Mem) (l4 l5 l6 : Option Value), o + c = nO s → Mod h0 m am h t → Sc s t →
    V G md_digest post h 0 0 6 [some (.ref m), some (.long (dgO s o)), none, some (.int (nI o)), l4, l5, l6] [] := by
  have h60 := ivo.2.1
  intro c
  induction c with
  | zero =>
    intro o h t l4 l5 l6 ho hM hS
    have r := hM.1
    refine V_iload_n d_md_digest_6 rfl rfl ?_
    refine V_aload_n d_md_digest_7 rfl rfl ?_
    refine V_getf d_md_digest_8 fl_md_122 r.obj rfl ?_
    rw [hS.1 8 rfl, ivo.1]
    refine V_icmp_ge d_md_digest_11 (fun c11 => ?_) (fun c11 => ?_)
    · skip
      obtain rfl : o = nO s := by omega
      exact K _ _ _ _ _ _ hM hS
    · skip
      exact absurd (ltN c11 (by omega)) (by omega)
  | succ c ih =>
    intro o h t l4 l5 l6 ho hM hS
    have r := hM.1
    refine V_iload_n d_md_digest_6 rfl rfl ?_
    refine V_aload_n d_md_digest_7 rfl rfl ?_
    refine V_getf d_md_digest_8 fl_md_122 r.obj rfl ?_
    rw [hS.1 8 rfl, ivo.1]
    refine V_icmp_ge d_md_digest_11 (fun c11 => ?_) (fun c11 => ?_)
    · skip
      exact absurd (geN c11 (by omega)) (by omega)
    · skip
      refine V_ldc2 d_md_digest_14 kc_md_300 ?_
      refine V_lload_n d_md_digest_17 rfl rfl ?_
      refine V_lmul d_md_digest_18 ?_
      refine V_aload_n d_md_digest_19 rfl rfl ?_
      refine V_getf d_md_digest_20 fl_md_31 r.obj rfl ?_
      refine V_iload_n d_md_digest_23 rfl rfl ?_
      refine V_mald r d_md_digest_24 (by first | with_reducible rfl | exact ix8 _ _ | exact ix6 _ _ | assumption) rfl rfl (by show _ < 60; omega) ?_
      rw [hS.2 9 rfl]
      refine V_i2l d_md_digest_25 ?_
      refine V_ladd d_md_digest_26 ?_
      refine V_lstore_n d_md_digest_27 rfl (by decide) rfl rfl ?_
      dsimp only [List.set]
      refine V_iconst (v := 0) d_md_digest_28 (by decide) ?_
      refine V_istore d_md_digest_29 (by decide) rfl rfl ?_
      dsimp only [List.set]
      refine lp_dg2 G ivs ivo ivf ivv o (by omega) (31 * dgO s o + (s.2 9 o).toInt64) post (fun h1 t1 l4 l5 l6 M1 S1 => ?_) (nf s (sh s o)) 0 _ _ _ _ (by omega) hM hS
      refine V_iinc d_md_digest_130 rfl rfl (by decide) rfl rfl ?_
      dsimp only [List.set]
      refine V_goto d_md_digest_133 ?_
      rw [show Int32.ofInt 1 = 1 from rfl, nI_1]
      exact ih (o + 1) _ _ _ _ _ (by omega) M1 S1
def digM (s : Mem) : Int64 := 31 * (31 * dgO s (nO s) + (nI (nD s)).toInt64) + (nI (nEn s - nD s)).toInt64
theorem IvG.sc {s t : Mem} (iv : IvG s) (h : Sc s t) : IvG t := by
  unfold IvG gF at *
  rw [h.1 24 rfl]
  exact iv
theorem sp_md_digest (G : Gk) {h : Hp} {m : Nat} {am : Nat → Nat} {s : Mem} (r : RepM h m am s) (ivs : IvS s) (ivo : IvO s) (ivf : IvF s) (ivv : IvV s) (ivh : IvH s) (ivg : IvG s) : Ct G md_digest [.ref m] h (pL fun r h' => (∃ t, Mod h m am h' t ∧ Sc s t) ∧ r = digM s) := by
  have fin : ∀ h1 t1 l3 l4 l5 l6, Mod h m am h1 t1 → Sc s t1 → V G md_digest (pL fun r h' => (∃ t, Mod h m am h' t ∧ Sc s t) ∧ r = digM s) h1 0 0 136 [some (.ref m), some (.long (dgO s (nO s))), none, l3, l4, l5, l6] [] := by
    intro h1 t1 l3 l4 l5 l6 M1 S1
    have R1 := M1.1
    have e3 : cntM t1 3 = nI (nD s) := by rw [show cntM t1 3 = t1.1 21 from rfl, S1.1 21 rfl]; exact ivh.2.2.1
    have e4 : cntM t1 4 = nI (nEn s - nD s) := by rw [show cntM t1 4 = nI (nEn t1 - nD t1) from rfl]; unfold nEn nD; rw [S1.1 20 rfl, S1.1 21 rfl]
    refine V_ldc2 d_md_digest_136 kc_md_300 ?_
    refine V_ldc2 d_md_digest_139 kc_md_300 ?_
    refine V_lload_n d_md_digest_142 rfl rfl ?_
    refine V_lmul d_md_digest_143 ?_
    refine V_aload_n d_md_digest_144 rfl rfl ?_
    refine V_iconst (v := 3) d_md_digest_145 (by decide) ?_
    refine V_callV (N := md_count) d_md_digest_146 ml_md_302 mdf_md_count wi_md_count wz_md_count (sp_md_count G R1 (ivh.sc S1) (ivg.sc S1) _) R1.obj ⟨_, rfl, rfl⟩ rfl rfl (by decide) (by decide) (Nat.le_of_ble_eq_true rfl) rfl rfl (kI fun r146 h146 ⟨e146, f146⟩ => ?_)
    subst e146 f146
    rw [e3]
    refine V_i2l d_md_digest_149 ?_
    refine V_ladd d_md_digest_150 ?_
    refine V_lmul d_md_digest_151 ?_
    refine V_aload_n d_md_digest_152 rfl rfl ?_
    refine V_iconst (v := 4) d_md_digest_153 (by decide) ?_
    refine V_callV (N := md_count) d_md_digest_154 ml_md_302 mdf_md_count wi_md_count wz_md_count (sp_md_count G R1 (ivh.sc S1) (ivg.sc S1) _) R1.obj ⟨_, rfl, rfl⟩ rfl rfl (by decide) (by decide) (Nat.le_of_ble_eq_true rfl) rfl rfl (kI fun r154 h154 ⟨e154, f154⟩ => ?_)
    subst e154 f154
    rw [e4]
    refine V_i2l d_md_digest_157 ?_
    refine V_ladd d_md_digest_158 ?_
    refine V_lreturn d_md_digest_159 rfl ?_
    exact ⟨_, rfl, ⟨t1, M1, S1⟩, rfl⟩
  refine Ct.ofL (M := md_digest) (lv := [some (.ref m), none, none, none, none, none, none]) mdf_md_digest rfl (Nat.le_of_ble_eq_true rfl) rfl ?_
  refine V_ldc2 d_md_digest_0 kc_md_298 ?_
  refine V_lstore_n d_md_digest_3 rfl (by decide) rfl rfl ?_
  dsimp only [List.set]
  refine V_iconst (v := 0) d_md_digest_4 (by decide) ?_
  refine V_istore_n d_md_digest_5 rfl (by decide) rfl rfl ?_
  dsimp only [List.set]
  exact lp_dg1 G ivs ivo ivf ivv _ fin (nO s) 0 _ _ _ _ _ (by omega) (Mod.rf r) (Sc.rf s)
