/-! the reference's values -/
def VOK (s : Mem) (o f : Nat) : Prop := (s.2 3 (8 * sh s o + f) = 1 → s.2 10 (8 * o + f) = MISS ∨ ∃ t, t < nO s ∧ s.2 10 (8 * o + f) = nI t) ∧
  (s.2 3 (8 * sh s o + f) = 2 → ∃ n, n ≤ 6 ∧ s.2 10 (8 * o + f) = nI n ∧ ∀ i, i < n → ∃ t, t < nO s ∧ s.2 11 (6 * (8 * o + f) + i) = nI t)
def IvV (s : Mem) : Prop := ∀ o, o < nO s → ∀ f, f < nf s (sh s o) → VOK s o f
def totF (s : Mem) (y g : Nat) : Nat → Int32
  | 0 => 0
  | k + 1 => totF s y g k + (if s.2 10 (8 * (s.2 11 (6 * y + k)).toNatClampNeg + g) = MISS then 0 else s.2 10 (8 * (s.2 11 (6 * y + k)).toNatClampNeg + g))
theorem lp_total (G : Gk) {h : Hp} {m : Nat} {am : Nat → Nat} {s : Mem} (r : RepM h m am s) (ivo : IvO s) (o f g len : Nat) (ho : o < nO s) (hf : f < 8) (hg : g < 8) (h6 : len ≤ 6) (hl : s.2 10 (8 * o + f) = nI len) (hp : ∀ i, i < len → ∃ t, t < nO s ∧ s.2 11 (6 * (8 * o + f) + i) = nI t) : ∀ (n k : Nat) (l6 : Option Value), k ≤ len → len + 1 ≤ k + n →
    V G md_total (pI fun r h' => h = h' ∧ r = totF s (8 * o + f) g len) h 0 0 6 [some (.ref m), some (.int (nI o)), some (.int (nI f)), some (.int (nI g)), some (.int (totF s (8 * o + f) g k)), some (.int (nI k)), l6] [] := by
  have h60 := ivo.2.1
  intro n
  induction n with
  | zero => intro k l6 h1 h2; exact absurd h2 (by omega)
  | succ n ih =>
    intro k l6 hq1 hq2
    refine V_iload d_md_total_6 rfl ?_
    refine V_aload_n d_md_total_8 rfl rfl ?_
    refine V_getf d_md_total_9 fl_md_34 r.obj rfl ?_
    refine V_aload_n d_md_total_12 rfl rfl ?_
    refine V_iload_n d_md_total_13 rfl rfl ?_
    refine V_iload_n d_md_total_14 rfl rfl ?_
    refine V_callV (N := md_at) d_md_total_15 ml_md_152 mdf_md_at wi_md_at wz_md_at (sp_md_at G _ _ _ _) r.obj ⟨_, rfl, rfl⟩ rfl rfl (by decide) (by decide) (Nat.le_of_ble_eq_true rfl) rfl rfl (kI fun r15 h15 ⟨e15, f15⟩ => ?_)
    subst e15 f15
    refine V_mald r d_md_total_18 (by first | with_reducible rfl | exact ix8 _ _ | exact ix6 _ _ | assumption) rfl rfl (by show _ < 480; omega) ?_
    rw [hl]
    refine V_icmp_ge d_md_total_19 (fun c19 => ?_) (fun c19 => ?_)
    · skip
      have hfk := geN c19 (by omega)
      obtain rfl : k = len := by omega
      refine V_iload d_md_total_75 rfl ?_
      refine V_ireturn d_md_total_77 rfl ?_
      exact ⟨_, rfl, rfl, rfl⟩
    · skip
      have hlt := ltN c19 (by omega)
      obtain ⟨t, ht1, ht2⟩ := hp k hlt
      have ct := cl t (by omega)
      have hw : totF s (8 * o + f) g (k + 1) = totF s (8 * o + f) g k + (if s.2 10 (8 * t + g) = MISS then 0 else s.2 10 (8 * t + g)) := by rw [totF, ht2, ct]
      refine V_aload_n d_md_total_22 rfl rfl ?_
      refine V_getf d_md_total_23 fl_md_34 r.obj rfl ?_
      refine V_aload_n d_md_total_26 rfl rfl ?_
      refine V_aload_n d_md_total_27 rfl rfl ?_
      refine V_getf d_md_total_28 fl_md_37 r.obj rfl ?_
      refine V_bipush (v := 6) d_md_total_31 (by decide) ?_
      refine V_aload_n d_md_total_33 rfl rfl ?_
      refine V_iload_n d_md_total_34 rfl rfl ?_
      refine V_iload_n d_md_total_35 rfl rfl ?_
      refine V_callV (N := md_at) d_md_total_36 ml_md_152 mdf_md_at wi_md_at wz_md_at (sp_md_at G _ _ _ _) r.obj ⟨_, rfl, rfl⟩ rfl rfl (by decide) (by decide) (Nat.le_of_ble_eq_true rfl) rfl rfl (kI fun r36 h36 ⟨e36, f36⟩ => ?_)
      subst e36 f36
      refine V_imul d_md_total_39 ?_
      refine V_iload d_md_total_40 rfl ?_
      refine V_iadd d_md_total_42 ?_
      refine V_mald r d_md_total_43 (by first | with_reducible rfl | exact ix8 _ _ | exact ix6 _ _ | assumption) rfl rfl (by show _ < 2880; omega) ?_
      rw [ht2]
      refine V_iload_n d_md_total_44 rfl rfl ?_
      refine V_callV (N := md_at) d_md_total_45 ml_md_152 mdf_md_at wi_md_at wz_md_at (sp_md_at G _ _ _ _) r.obj ⟨_, rfl, rfl⟩ rfl rfl (by decide) (by decide) (Nat.le_of_ble_eq_true rfl) rfl rfl (kI fun r45 h45 ⟨e45, f45⟩ => ?_)
      subst e45 f45
      refine V_mald r d_md_total_48 (by first | with_reducible rfl | exact ix8 _ _ | exact ix6 _ _ | assumption) rfl rfl (by show _ < 480; omega) ?_
      refine V_istore d_md_total_49 (by decide) rfl rfl ?_
      dsimp only [List.set]
      refine V_iload d_md_total_51 rfl ?_
      refine V_iload d_md_total_53 rfl ?_
      refine V_ldc d_md_total_55 kc_md_129 ?_
      refine V_icmp_ne d_md_total_57 (fun c57 => ?_) (fun c57 => ?_)
      · skip
        refine V_iload d_md_total_64 rfl ?_
        refine V_iadd d_md_total_66 ?_
        refine V_istore d_md_total_67 (by decide) rfl rfl ?_
        dsimp only [List.set]
        refine V_iinc (v := _) d_md_total_69 rfl rfl (by decide) rfl rfl ?_
        dsimp only [List.set]
        refine V_goto d_md_total_72 ?_
        rw [show Int32.ofInt 1 = 1 from rfl, nI_1]
        first | (rw [if_pos c57] at hw; rw [← hw]; exact ih (k + 1) _ (by omega) (by omega)) | (rw [if_neg c57] at hw; rw [← hw]; exact ih (k + 1) _ (by omega) (by omega))
      · skip
        refine V_iconst (v := 0) d_md_total_60 (by decide) ?_
        refine V_goto d_md_total_61 ?_
        refine V_iadd d_md_total_66 ?_
        refine V_istore d_md_total_67 (by decide) rfl rfl ?_
        dsimp only [List.set]
        refine V_iinc (v := _) d_md_total_69 rfl rfl (by decide) rfl rfl ?_
        dsimp only [List.set]
        refine V_goto d_md_total_72 ?_
        rw [show Int32.ofInt 1 = 1 from rfl, nI_1]
        first | (rw [if_pos c57] at hw; rw [← hw]; exact ih (k + 1) _ (by omega) (by omega)) | (rw [if_neg c57] at hw; rw [← hw]; exact ih (k + 1) _ (by omega) (by omega))
theorem sp_md_total (G : Gk) {h : Hp} {m : Nat} {am : Nat → Nat} {s : Mem} (r : RepM h m am s) (ivo : IvO s) (o f g len : Nat) (ho : o < nO s) (hf : f < 8) (hg : g < 8) (h6 : len ≤ 6) (hl : s.2 10 (8 * o + f) = nI len) (hp : ∀ i, i < len → ∃ t, t < nO s ∧ s.2 11 (6 * (8 * o + f) + i) = nI t) :
    Ct G md_total [.ref m, .int (nI o), .int (nI f), .int (nI g)] h (pI fun r h' => h = h' ∧ r = totF s (8 * o + f) g len) := by
  refine Ct.ofL (M := md_total) (lv := [some (.ref m), some (.int (nI o)), some (.int (nI f)), some (.int (nI g)), none, none, none]) mdf_md_total rfl (Nat.le_of_ble_eq_true rfl) rfl ?_
  refine V_iconst (v := 0) d_md_total_0 (by decide) ?_
  refine V_istore d_md_total_1 (by decide) rfl rfl ?_
  dsimp only [List.set]
  refine V_iconst (v := 0) d_md_total_3 (by decide) ?_
  refine V_istore d_md_total_4 (by decide) rfl rfl ?_
  dsimp only [List.set]
  exact lp_total G r ivo o f g len ho hf hg h6 hl hp (len + 1) 0 _ (by omega) (by omega)
/-- what a derived field follows to, K being what is known of the fields below -/
def follM (s : Mem) (o : Nat) (K : Nat → Int32) (x : Nat) : Int32 :=
  let f := (s.2 5 x).toNatClampNeg
  let g := (s.2 6 x).toNatClampNeg
  if s.2 4 x = 5 then (if s.2 3 (8 * sh s o + f) = 2 then (if 0 < K f then 1 else 0) else (if K f = MISS then 0 else 1))
  else if s.2 4 x = 3 then K f
  else if s.2 4 x = 4 then totF s (8 * o + f) g (s.2 10 (8 * o + f)).toNatClampNeg
  else if K f = MISS ∨ K g = MISS ∨ (s.2 4 x = 2 ∧ K g = 0) then MISS
  else if s.2 4 x = 0 then K f + K g else if s.2 4 x = 1 then (if K g < K f then K f else K g) else K f / K g
theorem sp_md_followed (G : Gk) {h : Hp} {m : Nat} {am : Nat → Nat} {s : Mem} (r : RepM h m am s) (ivs : IvS s) (ivo : IvO s) (ivf : IvF s) (ivv : IvV s) (o j : Nat) (ho : o < nO s) (hj : j < nf s (sh s o)) (hk : s.2 3 (8 * sh s o + j) = 3) :
    Ct G md_followed [.ref m, .int (nI o), .int (nI (8 * sh s o + j))] h (pI fun r h' => h = h' ∧ r = follM s o (s.2 12) (8 * sh s o + j)) := by
  have h10 := ivs.2.1
  have h60 := ivo.2.1
  obtain ⟨hs1, hs2⟩ := ivo.2.2 o ho
  obtain ⟨hf1, hf2⟩ := ivs.2.2.1 _ hs2
  obtain ⟨c, f, hc5, hfj, e4, e5, hc2, hc3, hc4⟩ : ∃ c f, c ≤ 5 ∧ f < j ∧ s.2 4 (8 * sh s o + j) = nI c ∧ s.2 5 (8 * sh s o + j) = nI f ∧ (c ≤ 2 → ∃ g, g < j ∧ s.2 6 (8 * sh s o + j) = nI g ∧ (s.2 3 (8 * sh s o + f) = 0 ∨ s.2 3 (8 * sh s o + f) = 3) ∧ (s.2 3 (8 * sh s o + g) = 0 ∨ s.2 3 (8 * sh s o + g) = 3)) ∧ ((c = 3 ∨ c = 4) → s.2 3 (8 * sh s o + f) = 2) ∧ (c = 4 → ∃ t g, t < nS s ∧ s.2 4 (8 * sh s o + f) = nI t ∧ g < nf s t ∧ s.2 6 (8 * sh s o + j) = nI g ∧ s.2 3 (8 * t + g) = 0) := by
    rcases ivf _ hs2 j hj with q | ⟨q, -⟩ | ⟨-, q⟩
    · rw [q] at hk; exact absurd hk (by decide)
    · rcases q with q | q <;> (rw [q] at hk; exact absurd hk (by decide))
    · exact q
  have cf := cl f (by omega)
  have hoo : IvO s ∧ o < nO s := ⟨ivo, ho⟩
  refine Ct.ofL (M := md_followed) (lv := [some (.ref m), some (.int (nI o)), some (.int (nI (8 * sh s o + j))), none, none, none, none, none]) mdf_md_followed rfl (Nat.le_of_ble_eq_true rfl) rfl ?_
  refine V_aload_n d_md_followed_0 rfl rfl ?_
  refine V_getf d_md_followed_1 fl_md_22 r.obj rfl ?_
  refine V_iload_n d_md_followed_4 rfl rfl ?_
  refine V_mald r d_md_followed_5 (by first | with_reducible rfl | exact ix8 _ _ | exact ix6 _ _ | assumption) rfl rfl (by show _ < 80; omega) ?_
  rw [e5]
  refine V_istore_n d_md_followed_6 rfl (by decide) rfl rfl ?_
  dsimp only [List.set]
  refine V_aload_n d_md_followed_7 rfl rfl ?_
  refine V_getf d_md_followed_8 fl_md_25 r.obj rfl ?_
  refine V_iload_n d_md_followed_11 rfl rfl ?_
  refine V_mald r d_md_followed_12 (by first | with_reducible rfl | exact ix8 _ _ | exact ix6 _ _ | assumption) rfl rfl (by show _ < 80; omega) ?_
  refine V_istore d_md_followed_13 (by decide) rfl rfl ?_
  dsimp only [List.set]
  refine V_aload_n d_md_followed_15 rfl rfl ?_
  refine V_getf d_md_followed_16 fl_md_19 r.obj rfl ?_
  refine V_iload_n d_md_followed_19 rfl rfl ?_
  refine V_mald r d_md_followed_20 (by first | with_reducible rfl | exact ix8 _ _ | exact ix6 _ _ | assumption) rfl rfl (by show _ < 80; omega) ?_
  rw [e4]
  refine V_istore d_md_followed_21 (by decide) rfl rfl ?_
  dsimp only [List.set]
  refine V_aload_n d_md_followed_23 rfl rfl ?_
  refine V_getf d_md_followed_24 fl_md_40 r.obj rfl ?_
  refine V_iload_n d_md_followed_27 rfl rfl ?_
  refine V_mald r d_md_followed_28 (by first | with_reducible rfl | exact ix8 _ _ | exact ix6 _ _ | assumption) rfl rfl (by show _ < 8; omega) ?_
  refine V_istore d_md_followed_29 (by decide) rfl rfl ?_
  dsimp only [List.set]
  refine V_iload d_md_followed_31 rfl ?_
  refine V_iconst (v := 5) d_md_followed_33 (by decide) ?_
  refine V_icmp_ne d_md_followed_34 (fun c34 => ?_) (fun c34 => ?_)
  · skip
    refine V_iload d_md_followed_78 rfl ?_
    refine V_iconst (v := 3) d_md_followed_80 (by decide) ?_
    refine V_icmp_ne d_md_followed_81 (fun c81 => ?_) (fun c81 => ?_)
    · skip
      refine V_iload d_md_followed_87 rfl ?_
      refine V_iconst (v := 4) d_md_followed_89 (by decide) ?_
      refine V_icmp_ne d_md_followed_90 (fun c90 => ?_) (fun c90 => ?_)
      · skip
        have hc : c ≤ 2 := Nat.not_lt.mp (fun q => by rcases (show c = 3 ∨ c = 4 ∨ c = 5 by omega) with rfl | rfl | rfl; exact c81 rfl; exact c90 rfl; exact c34 rfl)
        obtain ⟨g, hgj, e6, -⟩ := hc2 hc
        have cg := cl g (by omega)
        rw [e6]
        refine V_aload_n d_md_followed_102 rfl rfl ?_
        refine V_getf d_md_followed_103 fl_md_40 r.obj rfl ?_
        refine V_iload d_md_followed_106 rfl ?_
        refine V_mald r d_md_followed_108 (by first | with_reducible rfl | exact ix8 _ _ | exact ix6 _ _ | assumption) rfl rfl (by show _ < 8; omega) ?_
        refine V_istore d_md_followed_109 (by decide) rfl rfl ?_
        dsimp only [List.set]
        refine V_iload d_md_followed_111 rfl ?_
        refine V_ldc d_md_followed_113 kc_md_129 ?_
        refine V_icmp_eq d_md_followed_115 (fun c115 => ?_) (fun c115 => ?_)
        · skip
          refine V_ldc d_md_followed_136 kc_md_129 ?_
          refine V_ireturn d_md_followed_138 rfl ?_
          refine ⟨_, rfl, rfl, ?_⟩
          unfold follM
          simp only [e4, e5, e6, cf, cg]
          simp_all [MISS]
        · skip
          refine V_iload d_md_followed_118 rfl ?_
          refine V_ldc d_md_followed_120 kc_md_129 ?_
          refine V_icmp_eq d_md_followed_122 (fun c122 => ?_) (fun c122 => ?_)
          · skip
            refine V_ldc d_md_followed_136 kc_md_129 ?_
            refine V_ireturn d_md_followed_138 rfl ?_
            refine ⟨_, rfl, rfl, ?_⟩
            unfold follM
            simp only [e4, e5, e6, cf, cg]
            simp_all [MISS]
          · skip
            refine V_iload d_md_followed_125 rfl ?_
            refine V_iconst (v := 2) d_md_followed_127 (by decide) ?_
            refine V_icmp_ne d_md_followed_128 (fun c128 => ?_) (fun c128 => ?_)
            · skip
              refine V_iload d_md_followed_139 rfl ?_
              refine V_if_ne d_md_followed_141 (fun c141 => ?_) (fun c141 => ?_)
              · skip
                refine V_iload d_md_followed_152 rfl ?_
                refine V_iconst (v := 1) d_md_followed_154 (by decide) ?_
                refine V_icmp_ne d_md_followed_155 (fun c155 => ?_) (fun c155 => ?_)
                · skip
                  exact absurd (by rcases (show c = 0 ∨ c = 1 ∨ c = 2 by omega) with rfl | rfl | rfl; exact absurd rfl c141; exact absurd rfl c155; rfl) c128
                · skip
                  refine V_iload d_md_followed_158 rfl ?_
                  refine V_iload d_md_followed_160 rfl ?_
                  refine V_icmp_le d_md_followed_162 (fun c162 => ?_) (fun c162 => ?_)
                  · skip
                    have hzz : True := trivial
                    refine V_iload d_md_followed_170 rfl ?_
                    refine V_goto d_md_followed_172 ?_
                    refine V_ireturn d_md_followed_180 rfl ?_
                    refine ⟨_, rfl, rfl, ?_⟩
                    unfold follM
                    simp only [e4, e5, e6, cf, cg]
                    simp_all [MISS] <;> first | done | (intro q; exact absurd q (Int32.not_lt.mpr c162))
                  · skip
                    have c162' : s.2 12 g < s.2 12 f := Int32.not_le.mp c162
                    refine V_iload d_md_followed_165 rfl ?_
                    refine V_goto d_md_followed_167 ?_
                    refine V_ireturn d_md_followed_180 rfl ?_
                    refine ⟨_, rfl, rfl, ?_⟩
                    unfold follM
                    simp only [e4, e5, e6, cf, cg]
                    simp_all [MISS] <;> first | done | (intro q; exact absurd q (Int32.not_lt.mpr c162))
              · skip
                refine V_iload d_md_followed_144 rfl ?_
                refine V_iload d_md_followed_146 rfl ?_
                refine V_iadd d_md_followed_148 ?_
                refine V_goto d_md_followed_149 ?_
                refine V_ireturn d_md_followed_180 rfl ?_
                refine ⟨_, rfl, rfl, ?_⟩
                unfold follM
                simp only [e4, e5, e6, cf, cg]
                simp_all [MISS] <;> first | done | (intro q; exact absurd q (Int32.not_lt.mpr c162))
            · skip
              refine V_iload d_md_followed_131 rfl ?_
              refine V_if_ne d_md_followed_133 (fun c133 => ?_) (fun c133 => ?_)
              · skip
                refine V_iload d_md_followed_139 rfl ?_
                refine V_if_ne d_md_followed_141 (fun c141 => ?_) (fun c141 => ?_)
                · skip
                  refine V_iload d_md_followed_152 rfl ?_
                  refine V_iconst (v := 1) d_md_followed_154 (by decide) ?_
                  refine V_icmp_ne d_md_followed_155 (fun c155 => ?_) (fun c155 => ?_)
                  · skip
                    refine V_iload d_md_followed_175 rfl ?_
                    refine V_iload d_md_followed_177 rfl ?_
                    refine V_idiv d_md_followed_179 c133 ?_
                    refine V_ireturn d_md_followed_180 rfl ?_
                    refine ⟨_, rfl, rfl, ?_⟩
                    unfold follM
                    simp only [e4, e5, e6, cf, cg]
                    simp_all [MISS] <;> first | done | (intro q; exact absurd q (Int32.not_lt.mpr c162))
                  · skip
                    refine V_iload d_md_followed_158 rfl ?_
                    refine V_iload d_md_followed_160 rfl ?_
                    refine V_icmp_le d_md_followed_162 (fun c162 => ?_) (fun c162 => ?_)
                    · skip
                      have c162' : ¬ s.2 12 g < s.2 12 f := Int32.not_lt.mpr c162
                      refine V_iload d_md_followed_170 rfl ?_
                      refine V_goto d_md_followed_172 ?_
                      refine V_ireturn d_md_followed_180 rfl ?_
                      refine ⟨_, rfl, rfl, ?_⟩
                      unfold follM
                      simp only [e4, e5, e6, cf, cg]
                      simp_all [MISS] <;> first | done | (intro q; exact absurd q (Int32.not_lt.mpr c162))
                    · skip
                      have c162' : s.2 12 g < s.2 12 f := Int32.not_le.mp c162
                      refine V_iload d_md_followed_165 rfl ?_
                      refine V_goto d_md_followed_167 ?_
                      refine V_ireturn d_md_followed_180 rfl ?_
                      refine ⟨_, rfl, rfl, ?_⟩
                      unfold follM
                      simp only [e4, e5, e6, cf, cg]
                      simp_all [MISS] <;> first | done | (intro q; exact absurd q (Int32.not_lt.mpr c162))
                · skip
                  refine V_iload d_md_followed_144 rfl ?_
                  refine V_iload d_md_followed_146 rfl ?_
                  refine V_iadd d_md_followed_148 ?_
                  refine V_goto d_md_followed_149 ?_
                  refine V_ireturn d_md_followed_180 rfl ?_
                  refine ⟨_, rfl, rfl, ?_⟩
                  unfold follM
                  simp only [e4, e5, e6, cf, cg]
                  simp_all [MISS] <;> first | done | (intro q; exact absurd q (Int32.not_lt.mpr c162))
              · skip
                refine V_ldc d_md_followed_136 kc_md_129 ?_
                refine V_ireturn d_md_followed_138 rfl ?_
                refine ⟨_, rfl, rfl, ?_⟩
                unfold follM
                simp only [e4, e5, e6, cf, cg]
                simp_all [MISS]
      · skip
        obtain rfl : c = 4 := eqN c90 (by omega) (by decide)
        obtain ⟨t, g, ht, e4', hg, e6, -⟩ := hc4 rfl
        have hg8 := (ivs.2.2.1 t ht).2
        have cg := cl g (by omega)
        obtain ⟨len, hl1, hl2, hl3⟩ := (ivv o ho f (by omega)).2 (hc3 (Or.inr rfl))
        rw [e6]
        refine V_aload_n d_md_followed_93 rfl rfl ?_
        refine V_iload_n d_md_followed_94 rfl rfl ?_
        refine V_iload_n d_md_followed_95 rfl rfl ?_
        refine V_iload d_md_followed_96 rfl ?_
        refine V_callV (N := md_total) d_md_followed_98 ml_md_162 mdf_md_total wi_md_total wz_md_total (sp_md_total G r ivo o f g len ho (by omega) (by omega) hl1 hl2 hl3) r.obj ⟨_, rfl, rfl⟩ rfl rfl (by decide) (by decide) (Nat.le_of_ble_eq_true rfl) rfl rfl (kI fun r98 h98 ⟨e98, f98⟩ => ?_)
        subst e98 f98
        refine V_ireturn d_md_followed_101 rfl ?_
        refine ⟨_, rfl, rfl, ?_⟩
        unfold follM
        simp only [e4, e5, e6, cf, cg, hl2, cl len (by omega)]
        simp_all
    · skip
      refine V_iload d_md_followed_84 rfl ?_
      refine V_ireturn d_md_followed_86 rfl ?_
      refine ⟨_, rfl, rfl, ?_⟩
      unfold follM
      simp only [e4, e5, cf]
      simp_all [MISS]
  · skip
    refine V_aload_n d_md_followed_37 rfl rfl ?_
    refine V_getf d_md_followed_38 fl_md_16 r.obj rfl ?_
    refine V_aload_n d_md_followed_41 rfl rfl ?_
    refine V_iload_n d_md_followed_42 rfl rfl ?_
    refine V_iload_n d_md_followed_43 rfl rfl ?_
    refine V_callV (N := md_by) d_md_followed_44 ml_md_156 mdf_md_by wi_md_by wz_md_by (sp_md_by G r _ _ (by first | assumption | exact ⟨by assumption, by assumption⟩)) r.obj ⟨_, rfl, rfl⟩ rfl rfl (by decide) (by decide) (Nat.le_of_ble_eq_true rfl) rfl rfl (kI fun r44 h44 ⟨e44, f44⟩ => ?_)
    subst e44 f44
    refine V_mald r d_md_followed_47 (by first | with_reducible rfl | exact ix8 _ _ | exact ix6 _ _ | assumption) rfl rfl (by show _ < 80; omega) ?_
    refine V_iconst (v := 2) d_md_followed_48 (by decide) ?_
    refine V_icmp_ne d_md_followed_49 (fun c49 => ?_) (fun c49 => ?_)
    · skip
      refine V_iload d_md_followed_65 rfl ?_
      refine V_ldc d_md_followed_67 kc_md_129 ?_
      refine V_icmp_eq d_md_followed_69 (fun c69 => ?_) (fun c69 => ?_)
      · skip
        refine V_iconst (v := 0) d_md_followed_76 (by decide) ?_
        refine V_ireturn d_md_followed_77 rfl ?_
        refine ⟨_, rfl, rfl, ?_⟩
        unfold follM
        simp only [e4, e5, cf]
        simp_all [MISS]
      · skip
        refine V_iconst (v := 1) d_md_followed_72 (by decide) ?_
        refine V_goto d_md_followed_73 ?_
        refine V_ireturn d_md_followed_77 rfl ?_
        refine ⟨_, rfl, rfl, ?_⟩
        unfold follM
        simp only [e4, e5, cf]
        simp_all [MISS]
    · skip
      refine V_iload d_md_followed_52 rfl ?_
      refine V_if_le d_md_followed_54 (fun c54 => ?_) (fun c54 => ?_)
      · skip
        refine V_iconst (v := 0) d_md_followed_61 (by decide) ?_
        refine V_goto d_md_followed_62 ?_
        refine V_ireturn d_md_followed_77 rfl ?_
        refine ⟨_, rfl, rfl, ?_⟩
        unfold follM
        simp only [e4, e5, cf]
        simp_all [MISS]
      · skip
        refine V_iconst (v := 1) d_md_followed_57 (by decide) ?_
        refine V_goto d_md_followed_58 ?_
        refine V_ireturn d_md_followed_77 rfl ?_
        refine ⟨_, rfl, rfl, ?_⟩
        unfold follM
        simp only [e4, e5, cf]
        simp_all [MISS]
