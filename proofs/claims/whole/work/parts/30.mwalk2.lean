/-! the reference's walks: walk, matches, match -/
noncomputable def stW (s : Mem) (k n l : Int32) (x : Spt) : List Spt :=
  if k = 0 ∧ x.2 = -1 then fldW s x.1.toNatClampNeg n l else if k = 4 ∧ x.2 = -1 ∧ isOf s (s.2 9 x.1.toNatClampNeg) n = true then [(x.1, -1)] else if 0 < k ∧ k < 4 ∧ x.2 ≠ -1 then lstW s x.1.toNatClampNeg x.2.toNatClampNeg k n else []
theorem stW_nil {s : Mem} {k n l : Int32} {x : Spt} (h1 : ¬ (k = 0 ∧ x.2 = -1)) (h2 : ¬ (k = 4 ∧ x.2 = -1 ∧ isOf s (s.2 9 x.1.toNatClampNeg) n = true)) (h3 : ¬ (0 < k ∧ k < 4 ∧ x.2 ≠ -1)) : stW s k n l x = [] := by rw [stW, if_neg h1, if_neg h2, if_neg h3]
theorem stW_lst {s : Mem} {k n l : Int32} {x : Spt} (h1 : ¬ (k = 0 ∧ x.2 = -1)) (h2 : ¬ (k = 4 ∧ x.2 = -1 ∧ isOf s (s.2 9 x.1.toNatClampNeg) n = true)) (h3 : 0 < k ∧ k < 4 ∧ x.2 ≠ -1) : stW s k n l x = lstW s x.1.toNatClampNeg x.2.toNatClampNeg k n := by rw [stW, if_neg h1, if_neg h2, if_pos h3]
theorem k123 {k : Int32} (h1 : ¬ k ≤ 0) (h2 : ¬ 4 ≤ k) : k = 1 ∨ k = 2 ∨ k = 3 := by
  simp only [Int32.le_iff_toInt_le] at h1 h2
  have e0 : (0 : Int32).toInt = 0 := by decide
  have e4 : (4 : Int32).toInt = 4 := by decide
  rw [e0] at h1
  rw [e4] at h2
  have e1 : (1 : Int32).toInt = 1 := by decide
  have e2 : (2 : Int32).toInt = 2 := by decide
  have e3 : (3 : Int32).toInt = 3 := by decide
  rcases (show k.toInt = 1 ∨ k.toInt = 2 ∨ k.toInt = 3 by omega) with q | q | q
  · exact Or.inl (Int32.toInt_inj.mp (q.trans e1.symm))
  · exact Or.inr (Or.inl (Int32.toInt_inj.mp (q.trans e2.symm)))
  · exact Or.inr (Or.inr (Int32.toInt_inj.mp (q.trans e3.symm)))
theorem hasF_sc {s t : Mem} (h : Sc s t) (v f : Int32) : hasF t v f = hasF s v f := by
  unfold hasF nO nf sh
  rw [h.1 8 rfl, h.2 2 rfl, h.2 9 rfl]
theorem fldW_sc {s t : Mem} (h : Sc s t) (o : Nat) (n l : Int32) : fldW t o n l = fldW s o n l := by
  unfold fldW
  rw [hasF_sc h]
  unfold sh
  rw [h.2 3 rfl, h.2 9 rfl, h.2 10 rfl]
theorem lstW_sc {s t : Mem} (h : Sc s t) (o f : Nat) (k n : Int32) : lstW t o f k n = lstW s o f k n := by
  unfold lstW sh
  rw [h.2 3 rfl, h.2 9 rfl, h.2 10 rfl, h.2 11 rfl]
theorem isOf_sc {s t : Mem} (h : Sc s t) (a o : Int32) : isOf t a o = isOf s a o := isOfF_congr (h.2 1 rfl) o 10 a
def SpOK (s : Mem) (x : Spt) : Prop := ∃ o, o < nO s ∧ x.1 = nI o ∧ (x.2 = -1 ∨ ∃ f, f < nf s (sh s o) ∧ x.2 = nI f)
theorem take_fm {α β : Type} (f : α → List β) {L : List α} {j : Nat} {x : α} (h : L[j]? = some x) : (L.take (j + 1)).flatMap f = (L.take j).flatMap f ++ f x := by
  rw [List.take_add_one, h]
  simp
theorem take_le {α β : Type} (f : α → List β) (L : List α) (j : Nat) : ((L.take j).flatMap f).length ≤ (L.flatMap f).length := by
  conv => rhs; rw [← List.take_append_drop j L, List.flatMap_append, List.length_append]
  omega
theorem FW.kp {L : List Spt} {t u : Mem} (h : FW L t) (k : KpW t u) : FW L u := by
  refine ⟨by rw [k.1 37 (by decide)]; exact h.1, ?_⟩
  rw [k.2 38 (by decide) (by decide), k.2 39 (by decide) (by decide)]
  exact h.2
theorem lp_wk1 (G : Gk) {m : Nat} {am : Nat → Nat} {s : Mem} {h0 : Hp} (ivs : IvS s) (ivo : IvO s) (ivv : IvV s) (ivp : IvP s) (p i : Nat) (hp : p < nP s) (hi : i < sp s p) (ob k n l : Int32) (hl : l = b01 (i + 1 = sp s p)) (hok : StOK s k n) (L : List Spt) (hL : ∀ x, x ∈ L → SpOK s x) (hL36 : L.length ≤ 36) (hb : (L.flatMap (stW s k n l)).length ≤ 36) (post : Option Value → Hp → Prop)
    (K : ∀ h t l6 l7 l8, Mod h0 m am h t → Sc s t → NX (L.flatMap (stW s k n l)) t → V G md_walk post h 0 0 202 [some (.ref m), some (.int (nI p)), some (.int ob), some (.int (nI i)), some (.int k), some (.int n), l6, l7, l8] []) : ∀ (c j : Nat) (h : Hp) (t : Mem) (l7 l8 : Option Value), j + c = L.length → Mod h0 m am h t → Sc s t → FW L t → NX ((L.take j).flatMap (stW s k n l)) t →
    V G md_walk post h 0 0 63 [some (.ref m), some (.int (nI p)), some (.int ob), some (.int (nI i)), some (.int k), some (.int n), some (.int (nI j)), l7, l8] [] := by
  have h10 := ivs.2.1
  have h60 := ivo.2.1
  obtain ⟨h33, h16, hst⟩ := id ivp
  obtain ⟨h34, h5, -⟩ := hst p hp
  intro c
  induction c with
  | zero =>
    intro j h t l7 l8 hj hM hS hF hN
    have r := hM.1
    refine V_iload d_md_walk_63 rfl ?_
    refine V_aload_n d_md_walk_65 rfl rfl ?_
    refine V_getf d_md_walk_66 fl_md_269 r.obj rfl ?_
    rw [hF.1]
    refine V_icmp_ge d_md_walk_69 (fun c69 => ?_) (fun c69 => ?_)
    · skip
      rw [List.take_of_length_le (by omega)] at hN
      exact K _ _ _ _ _ hM hS hN
    · skip
      exact absurd (ltN c69 (by omega)) (by omega)
  | succ c ih =>
    intro j h t l7 l8 hj hM hS hF hN
    have r := hM.1
    have hlt : j < L.length := by omega
    obtain ⟨x, hx⟩ : ∃ x, L[j]? = some x := ⟨_, List.getElem?_eq_getElem hlt⟩
    obtain ⟨e38, e39⟩ := hF.2 j x hx
    obtain ⟨o, ho, ex1, ex2⟩ := hL x (List.mem_of_getElem? hx)
    have co := cl o (by omega)
    have eO : nO t = nO s := by unfold nO; rw [hS.1 8 rfl]
    have eS : nS t = nS s := by unfold nS; rw [hS.1 0 rfl]
    obtain ⟨hs1, hs2⟩ := ivo.2.2 o ho
    have hq36 := Nat.le_trans (take_le (stW s k n l) L j) hb
    have tail : ∀ h' u l7 l8, Mod h0 m am h' u → KpW t u → NX ((L.take j).flatMap (stW s k n l) ++ stW s k n l x) u → V G md_walk post h' 0 0 196 [some (.ref m), some (.int (nI p)), some (.int ob), some (.int (nI i)), some (.int k), some (.int n), some (.int (nI j)), l7, l8] [] := by
      intro h' u l7 l8 hM' hK' hN'
      refine V_iinc (v := _) d_md_walk_196 rfl rfl (by decide) rfl rfl ?_
      dsimp only [List.set]
      refine V_goto d_md_walk_199 ?_
      rw [show Int32.ofInt 1 = 1 from rfl, nI_1]
      exact ih (j + 1) _ u _ _ (by omega) hM' (hS.trans hK'.sc) (hF.kp hK') (by rw [take_fm _ hx]; exact hN')
    refine V_iload d_md_walk_63 rfl ?_
    refine V_aload_n d_md_walk_65 rfl rfl ?_
    refine V_getf d_md_walk_66 fl_md_269 r.obj rfl ?_
    rw [hF.1]
    refine V_icmp_ge d_md_walk_69 (fun c69 => ?_) (fun c69 => ?_)
    · skip
      exact absurd (geN c69 (by omega)) (by omega)
    · skip
      refine V_aload_n d_md_walk_72 rfl rfl ?_
      refine V_getf d_md_walk_73 fl_md_92 r.obj rfl ?_
      refine V_iload d_md_walk_76 rfl ?_
      refine V_mald r d_md_walk_78 (by first | with_reducible rfl | exact ix8 _ _ | exact ix6 _ _ | assumption) rfl rfl (by show _ < 600; omega) ?_
      rw [e38, ex1]
      refine V_istore d_md_walk_79 (by decide) rfl rfl ?_
      dsimp only [List.set]
      refine V_aload_n d_md_walk_81 rfl rfl ?_
      refine V_getf d_md_walk_82 fl_md_95 r.obj rfl ?_
      refine V_iload d_md_walk_85 rfl ?_
      refine V_mald r d_md_walk_87 (by first | with_reducible rfl | exact ix8 _ _ | exact ix6 _ _ | assumption) rfl rfl (by show _ < 600; omega) ?_
      rw [e39]
      refine V_istore d_md_walk_88 (by decide) rfl rfl ?_
      dsimp only [List.set]
      refine V_iload d_md_walk_90 rfl ?_
      refine V_if_ne d_md_walk_92 (fun c92 => ?_) (fun c92 => ?_)
      · skip
        refine V_iload d_md_walk_129 rfl ?_
        refine V_iconst (v := 4) d_md_walk_131 (by decide) ?_
        refine V_icmp_ne d_md_walk_132 (fun c132 => ?_) (fun c132 => ?_)
        · skip
          refine V_iload d_md_walk_167 rfl ?_
          refine V_if_le d_md_walk_169 (fun c169 => ?_) (fun c169 => ?_)
          · skip
            have H1 : ¬ (k = 0 ∧ x.2 = -1) := by first | exact fun q => c92 q.1 | exact fun q => c98 q.2
            have H2 : ¬ (k = 4 ∧ x.2 = -1 ∧ isOf s (s.2 9 x.1.toNatClampNeg) n = true) := by first | exact fun q => c132 q.1 | exact fun q => c138 q.2.1 | (rw [ex1, co]; exact fun q => b01_e c154 q.2.2)
            exact tail _ t _ _ hM (KpW.rf t) (by rw [stW_nil H1 H2 (by first | exact fun q => absurd q.1 (Int32.not_lt.mpr c169) | exact fun q => absurd q.2.1 (Int32.not_lt.mpr c175) | exact fun q => q.2.2 c181), List.append_nil]; exact hN)
          · skip
            refine V_iload d_md_walk_172 rfl ?_
            refine V_iconst (v := 4) d_md_walk_174 (by decide) ?_
            refine V_icmp_ge d_md_walk_175 (fun c175 => ?_) (fun c175 => ?_)
            · skip
              have H1 : ¬ (k = 0 ∧ x.2 = -1) := by first | exact fun q => c92 q.1 | exact fun q => c98 q.2
              have H2 : ¬ (k = 4 ∧ x.2 = -1 ∧ isOf s (s.2 9 x.1.toNatClampNeg) n = true) := by first | exact fun q => c132 q.1 | exact fun q => c138 q.2.1 | (rw [ex1, co]; exact fun q => b01_e c154 q.2.2)
              exact tail _ t _ _ hM (KpW.rf t) (by rw [stW_nil H1 H2 (by first | exact fun q => absurd q.1 (Int32.not_lt.mpr c169) | exact fun q => absurd q.2.1 (Int32.not_lt.mpr c175) | exact fun q => q.2.2 c181), List.append_nil]; exact hN)
            · skip
              refine V_iload d_md_walk_178 rfl ?_
              refine V_iconst (v := -1) d_md_walk_180 (by decide) ?_
              refine V_icmp_eq d_md_walk_181 (fun c181 => ?_) (fun c181 => ?_)
              · skip
                have H1 : ¬ (k = 0 ∧ x.2 = -1) := by first | exact fun q => c92 q.1 | exact fun q => c98 q.2
                have H2 : ¬ (k = 4 ∧ x.2 = -1 ∧ isOf s (s.2 9 x.1.toNatClampNeg) n = true) := by first | exact fun q => c132 q.1 | exact fun q => c138 q.2.1 | (rw [ex1, co]; exact fun q => b01_e c154 q.2.2)
                exact tail _ t _ _ hM (KpW.rf t) (by rw [stW_nil H1 H2 (by first | exact fun q => absurd q.1 (Int32.not_lt.mpr c169) | exact fun q => absurd q.2.1 (Int32.not_lt.mpr c175) | exact fun q => q.2.2 c181), List.append_nil]; exact hN)
              · skip
                obtain ⟨f, hf, exf⟩ := ex2.resolve_left c181
                have cf : (nI f).toNatClampNeg = f := cl f (by have := (ivs.2.2.1 _ hs2).2; omega)
                have hk123 : (k = 1 ∧ 0 ≤ n ∧ n ≤ 5) ∨ k = 2 ∨ k = 3 := (k123 c169 c175).imp (fun q => ⟨q, hok.2.2.1 q⟩) id
                rw [exf]
                refine V_aload_n d_md_walk_184 rfl rfl ?_
                refine V_iload d_md_walk_185 rfl ?_
                refine V_iload d_md_walk_187 rfl ?_
                refine V_iload d_md_walk_189 rfl ?_
                refine V_iload d_md_walk_191 rfl ?_
                refine V_callV (N := md_walkList) d_md_walk_193 ml_md_276 mdf_md_walkList wi_md_walkList wz_md_walkList ((sp_md_walkList G r (ivs.sc hS) (ivo.sc hS) (ivv.sc hS) hN (by omega) o f (by rw [eO]; exact ho) (by unfold nf sh at hf ⊢; rw [hS.2 2 rfl, hS.2 9 rfl]; exact hf) k n hk123)) r.obj ⟨_, rfl, rfl⟩ rfl rfl (by decide) (by decide) (Nat.le_of_ble_eq_true rfl) rfl rfl (kN fun h193 ⟨u, M193, N193, K193⟩ => ?_)
                have H1 : ¬ (k = 0 ∧ x.2 = -1) := by first | exact fun q => c92 q.1 | exact fun q => c98 q.2
                have H2 : ¬ (k = 4 ∧ x.2 = -1 ∧ isOf s (s.2 9 x.1.toNatClampNeg) n = true) := by first | exact fun q => c132 q.1 | exact fun q => c138 q.2.1 | (rw [ex1, co]; exact fun q => b01_e c154 q.2.2)
                refine tail _ u _ _ (hM.trans M193) K193 ?_
                rw [stW_lst H1 H2 ⟨Int32.not_le.mp c169, Int32.not_le.mp c175, c181⟩, ex1, co, exf, cf, ← lstW_sc hS]
                exact N193
        · skip
          refine V_iload d_md_walk_135 rfl ?_
          refine V_iconst (v := -1) d_md_walk_137 (by decide) ?_
          refine V_icmp_ne d_md_walk_138 (fun c138 => ?_) (fun c138 => ?_)
          · skip
            refine V_iload d_md_walk_167 rfl ?_
            refine V_if_le d_md_walk_169 (fun c169 => ?_) (fun c169 => ?_)
            · skip
              have H1 : ¬ (k = 0 ∧ x.2 = -1) := by first | exact fun q => c92 q.1 | exact fun q => c98 q.2
              have H2 : ¬ (k = 4 ∧ x.2 = -1 ∧ isOf s (s.2 9 x.1.toNatClampNeg) n = true) := by first | exact fun q => c132 q.1 | exact fun q => c138 q.2.1 | (rw [ex1, co]; exact fun q => b01_e c154 q.2.2)
              exact tail _ t _ _ hM (KpW.rf t) (by rw [stW_nil H1 H2 (by first | exact fun q => absurd q.1 (Int32.not_lt.mpr c169) | exact fun q => absurd q.2.1 (Int32.not_lt.mpr c175) | exact fun q => q.2.2 c181), List.append_nil]; exact hN)
            · skip
              refine V_iload d_md_walk_172 rfl ?_
              refine V_iconst (v := 4) d_md_walk_174 (by decide) ?_
              refine V_icmp_ge d_md_walk_175 (fun c175 => ?_) (fun c175 => ?_)
              · skip
                have H1 : ¬ (k = 0 ∧ x.2 = -1) := by first | exact fun q => c92 q.1 | exact fun q => c98 q.2
                have H2 : ¬ (k = 4 ∧ x.2 = -1 ∧ isOf s (s.2 9 x.1.toNatClampNeg) n = true) := by first | exact fun q => c132 q.1 | exact fun q => c138 q.2.1 | (rw [ex1, co]; exact fun q => b01_e c154 q.2.2)
                exact tail _ t _ _ hM (KpW.rf t) (by rw [stW_nil H1 H2 (by first | exact fun q => absurd q.1 (Int32.not_lt.mpr c169) | exact fun q => absurd q.2.1 (Int32.not_lt.mpr c175) | exact fun q => q.2.2 c181), List.append_nil]; exact hN)
              · skip
                refine V_iload d_md_walk_178 rfl ?_
                refine V_iconst (v := -1) d_md_walk_180 (by decide) ?_
                refine V_icmp_eq d_md_walk_181 (fun c181 => ?_) (fun c181 => ?_)
                · skip
                  have H1 : ¬ (k = 0 ∧ x.2 = -1) := by first | exact fun q => c92 q.1 | exact fun q => c98 q.2
                  have H2 : ¬ (k = 4 ∧ x.2 = -1 ∧ isOf s (s.2 9 x.1.toNatClampNeg) n = true) := by first | exact fun q => c132 q.1 | exact fun q => c138 q.2.1 | (rw [ex1, co]; exact fun q => b01_e c154 q.2.2)
                  exact tail _ t _ _ hM (KpW.rf t) (by rw [stW_nil H1 H2 (by first | exact fun q => absurd q.1 (Int32.not_lt.mpr c169) | exact fun q => absurd q.2.1 (Int32.not_lt.mpr c175) | exact fun q => q.2.2 c181), List.append_nil]; exact hN)
                · skip
                  obtain ⟨f, hf, exf⟩ := ex2.resolve_left c181
                  have cf : (nI f).toNatClampNeg = f := cl f (by have := (ivs.2.2.1 _ hs2).2; omega)
                  have hk123 : (k = 1 ∧ 0 ≤ n ∧ n ≤ 5) ∨ k = 2 ∨ k = 3 := (k123 c169 c175).imp (fun q => ⟨q, hok.2.2.1 q⟩) id
                  rw [exf]
                  refine V_aload_n d_md_walk_184 rfl rfl ?_
                  refine V_iload d_md_walk_185 rfl ?_
                  refine V_iload d_md_walk_187 rfl ?_
                  refine V_iload d_md_walk_189 rfl ?_
                  refine V_iload d_md_walk_191 rfl ?_
                  refine V_callV (N := md_walkList) d_md_walk_193 ml_md_276 mdf_md_walkList wi_md_walkList wz_md_walkList ((sp_md_walkList G r (ivs.sc hS) (ivo.sc hS) (ivv.sc hS) hN (by omega) o f (by rw [eO]; exact ho) (by unfold nf sh at hf ⊢; rw [hS.2 2 rfl, hS.2 9 rfl]; exact hf) k n hk123)) r.obj ⟨_, rfl, rfl⟩ rfl rfl (by decide) (by decide) (Nat.le_of_ble_eq_true rfl) rfl rfl (kN fun h193 ⟨u, M193, N193, K193⟩ => ?_)
                  have H1 : ¬ (k = 0 ∧ x.2 = -1) := by first | exact fun q => c92 q.1 | exact fun q => c98 q.2
                  have H2 : ¬ (k = 4 ∧ x.2 = -1 ∧ isOf s (s.2 9 x.1.toNatClampNeg) n = true) := by first | exact fun q => c132 q.1 | exact fun q => c138 q.2.1 | (rw [ex1, co]; exact fun q => b01_e c154 q.2.2)
                  refine tail _ u _ _ (hM.trans M193) K193 ?_
                  rw [stW_lst H1 H2 ⟨Int32.not_le.mp c169, Int32.not_le.mp c175, c181⟩, ex1, co, exf, cf, ← lstW_sc hS]
                  exact N193
          · skip
            refine V_aload_n d_md_walk_141 rfl rfl ?_
            refine V_aload_n d_md_walk_142 rfl rfl ?_
            refine V_getf d_md_walk_143 fl_md_31 r.obj rfl ?_
            refine V_iload d_md_walk_146 rfl ?_
            refine V_mald r d_md_walk_148 (by first | with_reducible rfl | exact ix8 _ _ | exact ix6 _ _ | assumption) rfl rfl (by show _ < 60; omega) ?_
            rw [hS.2 9 rfl]
            refine V_iload d_md_walk_149 rfl ?_
            refine V_callV (N := md_isOf) d_md_walk_151 ml_md_191 mdf_md_isOf wi_md_isOf wz_md_isOf (sp_md_isOf G r (ivs.sc hS) _ _ (Or.inr ⟨sh s o, by rw [eS]; exact hs2, hs1⟩)) r.obj ⟨_, rfl, rfl⟩ rfl rfl (by decide) (by decide) (Nat.le_of_ble_eq_true rfl) rfl rfl (kI fun r151 h151 ⟨e151, f151⟩ => ?_)
            subst e151 f151
            rw [isOf_sc hS]
            refine V_if_eq d_md_walk_154 (fun c154 => ?_) (fun c154 => ?_)
            · skip
              refine V_iload d_md_walk_167 rfl ?_
              refine V_if_le d_md_walk_169 (fun c169 => ?_) (fun c169 => ?_)
              · skip
                have H1 : ¬ (k = 0 ∧ x.2 = -1) := by first | exact fun q => c92 q.1 | exact fun q => c98 q.2
                have H2 : ¬ (k = 4 ∧ x.2 = -1 ∧ isOf s (s.2 9 x.1.toNatClampNeg) n = true) := by first | exact fun q => c132 q.1 | exact fun q => c138 q.2.1 | (rw [ex1, co]; exact fun q => b01_e c154 q.2.2)
                exact tail _ t _ _ hM (KpW.rf t) (by rw [stW_nil H1 H2 (by first | exact fun q => absurd q.1 (Int32.not_lt.mpr c169) | exact fun q => absurd q.2.1 (Int32.not_lt.mpr c175) | exact fun q => q.2.2 c181), List.append_nil]; exact hN)
              · skip
                refine V_iload d_md_walk_172 rfl ?_
                refine V_iconst (v := 4) d_md_walk_174 (by decide) ?_
                refine V_icmp_ge d_md_walk_175 (fun c175 => ?_) (fun c175 => ?_)
                · skip
                  have H1 : ¬ (k = 0 ∧ x.2 = -1) := by first | exact fun q => c92 q.1 | exact fun q => c98 q.2
                  have H2 : ¬ (k = 4 ∧ x.2 = -1 ∧ isOf s (s.2 9 x.1.toNatClampNeg) n = true) := by first | exact fun q => c132 q.1 | exact fun q => c138 q.2.1 | (rw [ex1, co]; exact fun q => b01_e c154 q.2.2)
                  exact tail _ t _ _ hM (KpW.rf t) (by rw [stW_nil H1 H2 (by first | exact fun q => absurd q.1 (Int32.not_lt.mpr c169) | exact fun q => absurd q.2.1 (Int32.not_lt.mpr c175) | exact fun q => q.2.2 c181), List.append_nil]; exact hN)
                · skip
                  refine V_iload d_md_walk_178 rfl ?_
                  refine V_iconst (v := -1) d_md_walk_180 (by decide) ?_
                  refine V_icmp_eq d_md_walk_181 (fun c181 => ?_) (fun c181 => ?_)
                  · skip
                    have H1 : ¬ (k = 0 ∧ x.2 = -1) := by first | exact fun q => c92 q.1 | exact fun q => c98 q.2
                    have H2 : ¬ (k = 4 ∧ x.2 = -1 ∧ isOf s (s.2 9 x.1.toNatClampNeg) n = true) := by first | exact fun q => c132 q.1 | exact fun q => c138 q.2.1 | (rw [ex1, co]; exact fun q => b01_e c154 q.2.2)
                    exact tail _ t _ _ hM (KpW.rf t) (by rw [stW_nil H1 H2 (by first | exact fun q => absurd q.1 (Int32.not_lt.mpr c169) | exact fun q => absurd q.2.1 (Int32.not_lt.mpr c175) | exact fun q => q.2.2 c181), List.append_nil]; exact hN)
                  · skip
                    obtain ⟨f, hf, exf⟩ := ex2.resolve_left c181
                    have cf : (nI f).toNatClampNeg = f := cl f (by have := (ivs.2.2.1 _ hs2).2; omega)
                    have hk123 : (k = 1 ∧ 0 ≤ n ∧ n ≤ 5) ∨ k = 2 ∨ k = 3 := (k123 c169 c175).imp (fun q => ⟨q, hok.2.2.1 q⟩) id
                    rw [exf]
                    refine V_aload_n d_md_walk_184 rfl rfl ?_
                    refine V_iload d_md_walk_185 rfl ?_
                    refine V_iload d_md_walk_187 rfl ?_
                    refine V_iload d_md_walk_189 rfl ?_
                    refine V_iload d_md_walk_191 rfl ?_
                    refine V_callV (N := md_walkList) d_md_walk_193 ml_md_276 mdf_md_walkList wi_md_walkList wz_md_walkList ((sp_md_walkList G r (ivs.sc hS) (ivo.sc hS) (ivv.sc hS) hN (by omega) o f (by rw [eO]; exact ho) (by unfold nf sh at hf ⊢; rw [hS.2 2 rfl, hS.2 9 rfl]; exact hf) k n hk123)) r.obj ⟨_, rfl, rfl⟩ rfl rfl (by decide) (by decide) (Nat.le_of_ble_eq_true rfl) rfl rfl (kN fun h193 ⟨u, M193, N193, K193⟩ => ?_)
                    have H1 : ¬ (k = 0 ∧ x.2 = -1) := by first | exact fun q => c92 q.1 | exact fun q => c98 q.2
                    have H2 : ¬ (k = 4 ∧ x.2 = -1 ∧ isOf s (s.2 9 x.1.toNatClampNeg) n = true) := by first | exact fun q => c132 q.1 | exact fun q => c138 q.2.1 | (rw [ex1, co]; exact fun q => b01_e c154 q.2.2)
                    refine tail _ u _ _ (hM.trans M193) K193 ?_
                    rw [stW_lst H1 H2 ⟨Int32.not_le.mp c169, Int32.not_le.mp c175, c181⟩, ex1, co, exf, cf, ← lstW_sc hS]
                    exact N193
            · skip
              refine V_aload_n d_md_walk_157 rfl rfl ?_
              refine V_iload d_md_walk_158 rfl ?_
              refine V_iconst (v := -1) d_md_walk_160 (by decide) ?_
              refine V_callV (N := md_matched) d_md_walk_161 ml_md_266 mdf_md_matched wi_md_matched wz_md_matched (sp_md_matched G r hN (by omega) _ _) r.obj ⟨_, rfl, rfl⟩ rfl rfl (by decide) (by decide) (Nat.le_of_ble_eq_true rfl) rfl rfl (kN fun h161 ⟨u, M161, N161, K161⟩ => ?_)
              refine V_goto d_md_walk_164 ?_
              refine tail _ u _ _ (hM.trans M161) K161 ?_
              rw [stW, if_neg (by first | exact fun q => c92 q.1 | exact fun q => c98 q.2), if_pos ⟨c132, c138, by rw [ex1, co]; exact b01_ne c154⟩]
              rw [ex1]
              exact N161
      · skip
        refine V_iload d_md_walk_95 rfl ?_
        refine V_iconst (v := -1) d_md_walk_97 (by decide) ?_
        refine V_icmp_ne d_md_walk_98 (fun c98 => ?_) (fun c98 => ?_)
        · skip
          refine V_iload d_md_walk_129 rfl ?_
          refine V_iconst (v := 4) d_md_walk_131 (by decide) ?_
          refine V_icmp_ne d_md_walk_132 (fun c132 => ?_) (fun c132 => ?_)
          · skip
            refine V_iload d_md_walk_167 rfl ?_
            refine V_if_le d_md_walk_169 (fun c169 => ?_) (fun c169 => ?_)
            · skip
              have H1 : ¬ (k = 0 ∧ x.2 = -1) := by first | exact fun q => c92 q.1 | exact fun q => c98 q.2
              have H2 : ¬ (k = 4 ∧ x.2 = -1 ∧ isOf s (s.2 9 x.1.toNatClampNeg) n = true) := by first | exact fun q => c132 q.1 | exact fun q => c138 q.2.1 | (rw [ex1, co]; exact fun q => b01_e c154 q.2.2)
              exact tail _ t _ _ hM (KpW.rf t) (by rw [stW_nil H1 H2 (by first | exact fun q => absurd q.1 (Int32.not_lt.mpr c169) | exact fun q => absurd q.2.1 (Int32.not_lt.mpr c175) | exact fun q => q.2.2 c181), List.append_nil]; exact hN)
            · skip
              refine V_iload d_md_walk_172 rfl ?_
              refine V_iconst (v := 4) d_md_walk_174 (by decide) ?_
              refine V_icmp_ge d_md_walk_175 (fun c175 => ?_) (fun c175 => ?_)
              · skip
                have H1 : ¬ (k = 0 ∧ x.2 = -1) := by first | exact fun q => c92 q.1 | exact fun q => c98 q.2
                have H2 : ¬ (k = 4 ∧ x.2 = -1 ∧ isOf s (s.2 9 x.1.toNatClampNeg) n = true) := by first | exact fun q => c132 q.1 | exact fun q => c138 q.2.1 | (rw [ex1, co]; exact fun q => b01_e c154 q.2.2)
                exact tail _ t _ _ hM (KpW.rf t) (by rw [stW_nil H1 H2 (by first | exact fun q => absurd q.1 (Int32.not_lt.mpr c169) | exact fun q => absurd q.2.1 (Int32.not_lt.mpr c175) | exact fun q => q.2.2 c181), List.append_nil]; exact hN)
              · skip
                refine V_iload d_md_walk_178 rfl ?_
                refine V_iconst (v := -1) d_md_walk_180 (by decide) ?_
                refine V_icmp_eq d_md_walk_181 (fun c181 => ?_) (fun c181 => ?_)
                · skip
                  have H1 : ¬ (k = 0 ∧ x.2 = -1) := by first | exact fun q => c92 q.1 | exact fun q => c98 q.2
                  have H2 : ¬ (k = 4 ∧ x.2 = -1 ∧ isOf s (s.2 9 x.1.toNatClampNeg) n = true) := by first | exact fun q => c132 q.1 | exact fun q => c138 q.2.1 | (rw [ex1, co]; exact fun q => b01_e c154 q.2.2)
                  exact tail _ t _ _ hM (KpW.rf t) (by rw [stW_nil H1 H2 (by first | exact fun q => absurd q.1 (Int32.not_lt.mpr c169) | exact fun q => absurd q.2.1 (Int32.not_lt.mpr c175) | exact fun q => q.2.2 c181), List.append_nil]; exact hN)
                · skip
                  obtain ⟨f, hf, exf⟩ := ex2.resolve_left c181
                  have cf : (nI f).toNatClampNeg = f := cl f (by have := (ivs.2.2.1 _ hs2).2; omega)
                  have hk123 : (k = 1 ∧ 0 ≤ n ∧ n ≤ 5) ∨ k = 2 ∨ k = 3 := (k123 c169 c175).imp (fun q => ⟨q, hok.2.2.1 q⟩) id
                  rw [exf]
                  refine V_aload_n d_md_walk_184 rfl rfl ?_
                  refine V_iload d_md_walk_185 rfl ?_
                  refine V_iload d_md_walk_187 rfl ?_
                  refine V_iload d_md_walk_189 rfl ?_
                  refine V_iload d_md_walk_191 rfl ?_
                  refine V_callV (N := md_walkList) d_md_walk_193 ml_md_276 mdf_md_walkList wi_md_walkList wz_md_walkList ((sp_md_walkList G r (ivs.sc hS) (ivo.sc hS) (ivv.sc hS) hN (by omega) o f (by rw [eO]; exact ho) (by unfold nf sh at hf ⊢; rw [hS.2 2 rfl, hS.2 9 rfl]; exact hf) k n hk123)) r.obj ⟨_, rfl, rfl⟩ rfl rfl (by decide) (by decide) (Nat.le_of_ble_eq_true rfl) rfl rfl (kN fun h193 ⟨u, M193, N193, K193⟩ => ?_)
                  have H1 : ¬ (k = 0 ∧ x.2 = -1) := by first | exact fun q => c92 q.1 | exact fun q => c98 q.2
                  have H2 : ¬ (k = 4 ∧ x.2 = -1 ∧ isOf s (s.2 9 x.1.toNatClampNeg) n = true) := by first | exact fun q => c132 q.1 | exact fun q => c138 q.2.1 | (rw [ex1, co]; exact fun q => b01_e c154 q.2.2)
                  refine tail _ u _ _ (hM.trans M193) K193 ?_
                  rw [stW_lst H1 H2 ⟨Int32.not_le.mp c169, Int32.not_le.mp c175, c181⟩, ex1, co, exf, cf, ← lstW_sc hS]
                  exact N193
          · skip
            refine V_iload d_md_walk_135 rfl ?_
            refine V_iconst (v := -1) d_md_walk_137 (by decide) ?_
            refine V_icmp_ne d_md_walk_138 (fun c138 => ?_) (fun c138 => ?_)
            · skip
              refine V_iload d_md_walk_167 rfl ?_
              refine V_if_le d_md_walk_169 (fun c169 => ?_) (fun c169 => ?_)
              · skip
                have H1 : ¬ (k = 0 ∧ x.2 = -1) := by first | exact fun q => c92 q.1 | exact fun q => c98 q.2
                have H2 : ¬ (k = 4 ∧ x.2 = -1 ∧ isOf s (s.2 9 x.1.toNatClampNeg) n = true) := by first | exact fun q => c132 q.1 | exact fun q => c138 q.2.1 | (rw [ex1, co]; exact fun q => b01_e c154 q.2.2)
                exact tail _ t _ _ hM (KpW.rf t) (by rw [stW_nil H1 H2 (by first | exact fun q => absurd q.1 (Int32.not_lt.mpr c169) | exact fun q => absurd q.2.1 (Int32.not_lt.mpr c175) | exact fun q => q.2.2 c181), List.append_nil]; exact hN)
              · skip
                refine V_iload d_md_walk_172 rfl ?_
                refine V_iconst (v := 4) d_md_walk_174 (by decide) ?_
                refine V_icmp_ge d_md_walk_175 (fun c175 => ?_) (fun c175 => ?_)
                · skip
                  have H1 : ¬ (k = 0 ∧ x.2 = -1) := by first | exact fun q => c92 q.1 | exact fun q => c98 q.2
                  have H2 : ¬ (k = 4 ∧ x.2 = -1 ∧ isOf s (s.2 9 x.1.toNatClampNeg) n = true) := by first | exact fun q => c132 q.1 | exact fun q => c138 q.2.1 | (rw [ex1, co]; exact fun q => b01_e c154 q.2.2)
                  exact tail _ t _ _ hM (KpW.rf t) (by rw [stW_nil H1 H2 (by first | exact fun q => absurd q.1 (Int32.not_lt.mpr c169) | exact fun q => absurd q.2.1 (Int32.not_lt.mpr c175) | exact fun q => q.2.2 c181), List.append_nil]; exact hN)
                · skip
                  refine V_iload d_md_walk_178 rfl ?_
                  refine V_iconst (v := -1) d_md_walk_180 (by decide) ?_
                  refine V_icmp_eq d_md_walk_181 (fun c181 => ?_) (fun c181 => ?_)
                  · skip
                    have H1 : ¬ (k = 0 ∧ x.2 = -1) := by first | exact fun q => c92 q.1 | exact fun q => c98 q.2
                    have H2 : ¬ (k = 4 ∧ x.2 = -1 ∧ isOf s (s.2 9 x.1.toNatClampNeg) n = true) := by first | exact fun q => c132 q.1 | exact fun q => c138 q.2.1 | (rw [ex1, co]; exact fun q => b01_e c154 q.2.2)
                    exact tail _ t _ _ hM (KpW.rf t) (by rw [stW_nil H1 H2 (by first | exact fun q => absurd q.1 (Int32.not_lt.mpr c169) | exact fun q => absurd q.2.1 (Int32.not_lt.mpr c175) | exact fun q => q.2.2 c181), List.append_nil]; exact hN)
                  · skip
                    obtain ⟨f, hf, exf⟩ := ex2.resolve_left c181
                    have cf : (nI f).toNatClampNeg = f := cl f (by have := (ivs.2.2.1 _ hs2).2; omega)
                    have hk123 : (k = 1 ∧ 0 ≤ n ∧ n ≤ 5) ∨ k = 2 ∨ k = 3 := (k123 c169 c175).imp (fun q => ⟨q, hok.2.2.1 q⟩) id
                    rw [exf]
                    refine V_aload_n d_md_walk_184 rfl rfl ?_
                    refine V_iload d_md_walk_185 rfl ?_
                    refine V_iload d_md_walk_187 rfl ?_
                    refine V_iload d_md_walk_189 rfl ?_
                    refine V_iload d_md_walk_191 rfl ?_
                    refine V_callV (N := md_walkList) d_md_walk_193 ml_md_276 mdf_md_walkList wi_md_walkList wz_md_walkList ((sp_md_walkList G r (ivs.sc hS) (ivo.sc hS) (ivv.sc hS) hN (by omega) o f (by rw [eO]; exact ho) (by unfold nf sh at hf ⊢; rw [hS.2 2 rfl, hS.2 9 rfl]; exact hf) k n hk123)) r.obj ⟨_, rfl, rfl⟩ rfl rfl (by decide) (by decide) (Nat.le_of_ble_eq_true rfl) rfl rfl (kN fun h193 ⟨u, M193, N193, K193⟩ => ?_)
                    have H1 : ¬ (k = 0 ∧ x.2 = -1) := by first | exact fun q => c92 q.1 | exact fun q => c98 q.2
                    have H2 : ¬ (k = 4 ∧ x.2 = -1 ∧ isOf s (s.2 9 x.1.toNatClampNeg) n = true) := by first | exact fun q => c132 q.1 | exact fun q => c138 q.2.1 | (rw [ex1, co]; exact fun q => b01_e c154 q.2.2)
                    refine tail _ u _ _ (hM.trans M193) K193 ?_
                    rw [stW_lst H1 H2 ⟨Int32.not_le.mp c169, Int32.not_le.mp c175, c181⟩, ex1, co, exf, cf, ← lstW_sc hS]
                    exact N193
            · skip
              refine V_aload_n d_md_walk_141 rfl rfl ?_
              refine V_aload_n d_md_walk_142 rfl rfl ?_
              refine V_getf d_md_walk_143 fl_md_31 r.obj rfl ?_
              refine V_iload d_md_walk_146 rfl ?_
              refine V_mald r d_md_walk_148 (by first | with_reducible rfl | exact ix8 _ _ | exact ix6 _ _ | assumption) rfl rfl (by show _ < 60; omega) ?_
              rw [hS.2 9 rfl]
              refine V_iload d_md_walk_149 rfl ?_
              refine V_callV (N := md_isOf) d_md_walk_151 ml_md_191 mdf_md_isOf wi_md_isOf wz_md_isOf (sp_md_isOf G r (ivs.sc hS) _ _ (Or.inr ⟨sh s o, by rw [eS]; exact hs2, hs1⟩)) r.obj ⟨_, rfl, rfl⟩ rfl rfl (by decide) (by decide) (Nat.le_of_ble_eq_true rfl) rfl rfl (kI fun r151 h151 ⟨e151, f151⟩ => ?_)
              subst e151 f151
              rw [isOf_sc hS]
              refine V_if_eq d_md_walk_154 (fun c154 => ?_) (fun c154 => ?_)
              · skip
                refine V_iload d_md_walk_167 rfl ?_
                refine V_if_le d_md_walk_169 (fun c169 => ?_) (fun c169 => ?_)
                · skip
                  have H1 : ¬ (k = 0 ∧ x.2 = -1) := by first | exact fun q => c92 q.1 | exact fun q => c98 q.2
                  have H2 : ¬ (k = 4 ∧ x.2 = -1 ∧ isOf s (s.2 9 x.1.toNatClampNeg) n = true) := by first | exact fun q => c132 q.1 | exact fun q => c138 q.2.1 | (rw [ex1, co]; exact fun q => b01_e c154 q.2.2)
                  exact tail _ t _ _ hM (KpW.rf t) (by rw [stW_nil H1 H2 (by first | exact fun q => absurd q.1 (Int32.not_lt.mpr c169) | exact fun q => absurd q.2.1 (Int32.not_lt.mpr c175) | exact fun q => q.2.2 c181), List.append_nil]; exact hN)
                · skip
                  refine V_iload d_md_walk_172 rfl ?_
                  refine V_iconst (v := 4) d_md_walk_174 (by decide) ?_
                  refine V_icmp_ge d_md_walk_175 (fun c175 => ?_) (fun c175 => ?_)
                  · skip
                    have H1 : ¬ (k = 0 ∧ x.2 = -1) := by first | exact fun q => c92 q.1 | exact fun q => c98 q.2
                    have H2 : ¬ (k = 4 ∧ x.2 = -1 ∧ isOf s (s.2 9 x.1.toNatClampNeg) n = true) := by first | exact fun q => c132 q.1 | exact fun q => c138 q.2.1 | (rw [ex1, co]; exact fun q => b01_e c154 q.2.2)
                    exact tail _ t _ _ hM (KpW.rf t) (by rw [stW_nil H1 H2 (by first | exact fun q => absurd q.1 (Int32.not_lt.mpr c169) | exact fun q => absurd q.2.1 (Int32.not_lt.mpr c175) | exact fun q => q.2.2 c181), List.append_nil]; exact hN)
                  · skip
                    refine V_iload d_md_walk_178 rfl ?_
                    refine V_iconst (v := -1) d_md_walk_180 (by decide) ?_
                    refine V_icmp_eq d_md_walk_181 (fun c181 => ?_) (fun c181 => ?_)
                    · skip
                      have H1 : ¬ (k = 0 ∧ x.2 = -1) := by first | exact fun q => c92 q.1 | exact fun q => c98 q.2
                      have H2 : ¬ (k = 4 ∧ x.2 = -1 ∧ isOf s (s.2 9 x.1.toNatClampNeg) n = true) := by first | exact fun q => c132 q.1 | exact fun q => c138 q.2.1 | (rw [ex1, co]; exact fun q => b01_e c154 q.2.2)
                      exact tail _ t _ _ hM (KpW.rf t) (by rw [stW_nil H1 H2 (by first | exact fun q => absurd q.1 (Int32.not_lt.mpr c169) | exact fun q => absurd q.2.1 (Int32.not_lt.mpr c175) | exact fun q => q.2.2 c181), List.append_nil]; exact hN)
                    · skip
                      obtain ⟨f, hf, exf⟩ := ex2.resolve_left c181
                      have cf : (nI f).toNatClampNeg = f := cl f (by have := (ivs.2.2.1 _ hs2).2; omega)
                      have hk123 : (k = 1 ∧ 0 ≤ n ∧ n ≤ 5) ∨ k = 2 ∨ k = 3 := (k123 c169 c175).imp (fun q => ⟨q, hok.2.2.1 q⟩) id
                      rw [exf]
                      refine V_aload_n d_md_walk_184 rfl rfl ?_
                      refine V_iload d_md_walk_185 rfl ?_
                      refine V_iload d_md_walk_187 rfl ?_
                      refine V_iload d_md_walk_189 rfl ?_
                      refine V_iload d_md_walk_191 rfl ?_
                      refine V_callV (N := md_walkList) d_md_walk_193 ml_md_276 mdf_md_walkList wi_md_walkList wz_md_walkList ((sp_md_walkList G r (ivs.sc hS) (ivo.sc hS) (ivv.sc hS) hN (by omega) o f (by rw [eO]; exact ho) (by unfold nf sh at hf ⊢; rw [hS.2 2 rfl, hS.2 9 rfl]; exact hf) k n hk123)) r.obj ⟨_, rfl, rfl⟩ rfl rfl (by decide) (by decide) (Nat.le_of_ble_eq_true rfl) rfl rfl (kN fun h193 ⟨u, M193, N193, K193⟩ => ?_)
                      have H1 : ¬ (k = 0 ∧ x.2 = -1) := by first | exact fun q => c92 q.1 | exact fun q => c98 q.2
                      have H2 : ¬ (k = 4 ∧ x.2 = -1 ∧ isOf s (s.2 9 x.1.toNatClampNeg) n = true) := by first | exact fun q => c132 q.1 | exact fun q => c138 q.2.1 | (rw [ex1, co]; exact fun q => b01_e c154 q.2.2)
                      refine tail _ u _ _ (hM.trans M193) K193 ?_
                      rw [stW_lst H1 H2 ⟨Int32.not_le.mp c169, Int32.not_le.mp c175, c181⟩, ex1, co, exf, cf, ← lstW_sc hS]
                      exact N193
              · skip
                refine V_aload_n d_md_walk_157 rfl rfl ?_
                refine V_iload d_md_walk_158 rfl ?_
                refine V_iconst (v := -1) d_md_walk_160 (by decide) ?_
                refine V_callV (N := md_matched) d_md_walk_161 ml_md_266 mdf_md_matched wi_md_matched wz_md_matched (sp_md_matched G r hN (by omega) _ _) r.obj ⟨_, rfl, rfl⟩ rfl rfl (by decide) (by decide) (Nat.le_of_ble_eq_true rfl) rfl rfl (kN fun h161 ⟨u, M161, N161, K161⟩ => ?_)
                refine V_goto d_md_walk_164 ?_
                refine tail _ u _ _ (hM.trans M161) K161 ?_
                rw [stW, if_neg (by first | exact fun q => c92 q.1 | exact fun q => c98 q.2), if_pos ⟨c132, c138, by rw [ex1, co]; exact b01_ne c154⟩]
                rw [ex1]
                exact N161
        · skip
          refine V_aload_n d_md_walk_101 rfl rfl ?_
          refine V_iload d_md_walk_102 rfl ?_
          refine V_iload d_md_walk_104 rfl ?_
          refine V_iload_n d_md_walk_106 rfl rfl ?_
          refine V_aload_n d_md_walk_107 rfl rfl ?_
          refine V_getf d_md_walk_108 fl_md_83 r.obj rfl ?_
          refine V_iload_n d_md_walk_111 rfl rfl ?_
          refine V_mald r d_md_walk_112 (by first | with_reducible rfl | exact ix8 _ _ | exact ix6 _ _ | assumption) rfl rfl (by show _ < 16; omega) ?_
          rw [hS.2 34 rfl, h34]
          refine V_iconst (v := 1) d_md_walk_113 (by decide) ?_
          refine V_isub d_md_walk_114 ?_
          refine V_icmp_ne d_md_walk_115 (fun c115 => ?_) (fun c115 => ?_)
          · skip
            refine V_iconst (v := 0) d_md_walk_122 (by decide) ?_
            refine V_callV (N := md_walkField) d_md_walk_123 ml_md_272 mdf_md_walkField wi_md_walkField wz_md_walkField ((sp_md_walkField G r (ivs.sc hS) (ivo.sc hS) hN (by omega) o (by rw [eO]; exact ho) n 0)) r.obj ⟨_, rfl, rfl⟩ rfl rfl (by decide) (by decide) (Nat.le_of_ble_eq_true rfl) rfl rfl (kN fun h123 ⟨u, M123, N123, K123⟩ => ?_)
            refine V_goto d_md_walk_126 ?_
            obtain rfl : l = 0 := hl.trans (b01_f (fun q => c115 (by rw [← q, nI_pred])))
            refine tail _ u _ _ (hM.trans M123) K123 ?_
            rw [stW, if_pos ⟨c92, c98⟩, ex1, co, ← fldW_sc hS]
            exact N123
          · skip
            refine V_iconst (v := 1) d_md_walk_118 (by decide) ?_
            refine V_goto d_md_walk_119 ?_
            refine V_callV (N := md_walkField) d_md_walk_123 ml_md_272 mdf_md_walkField wi_md_walkField wz_md_walkField ((sp_md_walkField G r (ivs.sc hS) (ivo.sc hS) hN (by omega) o (by rw [eO]; exact ho) n 1)) r.obj ⟨_, rfl, rfl⟩ rfl rfl (by decide) (by decide) (Nat.le_of_ble_eq_true rfl) rfl rfl (kN fun h123 ⟨u, M123, N123, K123⟩ => ?_)
            refine V_goto d_md_walk_126 ?_
            obtain rfl : l = 1 := hl.trans (b01_t (by rw [ixm (by omega)] at c115; have := nI_inj8 (by omega) (by omega) c115; omega))
            refine tail _ u _ _ (hM.trans M123) K123 ?_
            rw [stW, if_pos ⟨c92, c98⟩, ex1, co, ← fldW_sc hS]
            exact N123
/-- how wide a row of places can be -/
def wP (L : List Spt) : Nat := (L.map (fun x => if x.2 = -1 then 1 else 6)).sum
theorem wP_app (A B : List Spt) : wP (A ++ B) = wP A + wP B := by simp [wP]
theorem wP_cons (x : Spt) (B : List Spt) : wP (x :: B) = (if x.2 = -1 then 1 else 6) + wP B := by simp [wP]
theorem wP_le : ∀ L : List Spt, L.length ≤ wP L
  | [] => by simp [wP]
  | x :: L => by
    have := wP_le L
    rw [wP_cons, List.length_cons]
    split <;> omega
theorem lsP_w (P : Nat → Int32) (m : Nat) : ∀ n a, wP (lsP P m a n) ≤ n
  | 0, _ => by simp [lsP, wP]
  | n + 1, a => by
    have := lsP_w P m n (a + 1)
    simp only [lsP, wP_app]
    split
    · simp [wP] at *; omega
    · simp [wP] at *; omega
theorem fldW_b (s : Mem) (o : Nat) (n l : Int32) : (fldW s o n l).length ≤ 1 ∧ wP (fldW s o n l) ≤ 6 := by
  unfold fldW
  split
  · split
    · split
      · simp [wP]
      · simp [wP]
    · simp only [wP, List.length_singleton, List.map_cons, List.map_nil, List.sum_cons, List.sum_nil]
      split <;> omega
  · simp [wP]
theorem lstW_b {s : Mem} (ivv : IvV s) {o f : Nat} (ho : o < nO s) (hf : f < nf s (sh s o)) (k n : Int32) : (lstW s o f k n).length ≤ 6 ∧ wP (lstW s o f k n) ≤ 6 := by
  unfold lstW
  split
  · next h =>
    obtain ⟨len, h6, hl, -⟩ := (ivv o ho f hf).2 h
    rw [hl, cl len (by omega)]
    have hq : (lsN k n len).2 ≤ 6 := by
      unfold lsN
      split
      · show 1 ≤ 6; decide
      · split
        · simp only; split <;> omega
        · exact h6
    exact ⟨Nat.le_trans (lsP_len _ _ _ _) hq, Nat.le_trans (lsP_w _ _ _ _) hq⟩
  · simp [wP]
theorem stW_b0 {s : Mem} {k n l : Int32} {x : Spt} (hk : k = 0) : (stW s k n l x).length ≤ 1 ∧ wP (stW s k n l x) ≤ 6 := by
  subst hk
  unfold stW
  split
  · exact fldW_b _ _ _ _
  · rw [if_neg (fun q => absurd q.1 (by decide)), if_neg (fun q => absurd q.1 (by decide))]
    simp [wP]
theorem stW_b {s : Mem} (ivs : IvS s) (ivo : IvO s) (ivv : IvV s) {k n l : Int32} {x : Spt} (hx : SpOK s x) (hk : k ≠ 0) : (stW s k n l x).length ≤ wP [x] ∧ wP (stW s k n l x) ≤ wP [x] := by
  obtain ⟨o, ho, e1, e2⟩ := hx
  have h60 := ivo.2.1
  unfold stW
  rw [if_neg (fun q => hk q.1)]
  split
  · next h => simp [wP, h.2.1]
  · split
    · next h =>
      obtain ⟨f, hf, ef⟩ := e2.resolve_left h.2.2
      have hf8 := (ivs.2.2.1 _ (ivo.2.2 o ho).2).2
      rw [e1, ef, cl o (by omega), cl f (by omega)]
      have := lstW_b ivv ho hf k n
      have e6 : wP [x] = 6 := by simp [wP, h.2.2]
      rw [e6]; exact this
    · simp [wP]
theorem fm_b {f : Spt → List Spt} {A : Nat} {B : Spt → Nat} : ∀ (L : List Spt), (∀ x, x ∈ L → (f x).length ≤ 1 ∧ wP (f x) ≤ 6) → (L.flatMap f).length ≤ L.length ∧ wP (L.flatMap f) ≤ 6 * L.length
  | [], _ => by simp [wP]
  | x :: L, h => by
    have i := fm_b (A := A) (B := B) L (fun y hy => h y (List.mem_cons_of_mem _ hy))
    have j := h x (List.mem_cons_self ..)
    rw [List.flatMap_cons, List.length_append, wP_app, List.length_cons]
    omega
theorem fm_b2 {f : Spt → List Spt} : ∀ (L : List Spt), (∀ x, x ∈ L → (f x).length ≤ wP [x] ∧ wP (f x) ≤ wP [x]) → (L.flatMap f).length ≤ wP L ∧ wP (L.flatMap f) ≤ wP L
  | [], _ => by simp [wP]
  | x :: L, h => by
    have i := fm_b2 L (fun y hy => h y (List.mem_cons_of_mem _ hy))
    have j := h x (List.mem_cons_self ..)
    have e : wP (x :: L) = wP [x] + wP L := by rw [← wP_app]; rfl
    rw [List.flatMap_cons, List.length_append, wP_app, e]
    omega
noncomputable def wlkL (s : Mem) (p o : Nat) : Nat → List Spt
  | 0 => [(nI o, -1)]
  | i + 1 => (wlkL s p o i).flatMap (stW s (s.2 35 (5 * p + i)) (s.2 36 (5 * p + i)) (b01 (i + 1 = sp s p)))
theorem fldW_ok {s : Mem} (ivs : IvS s) (ivo : IvO s) (ivv : IvV s) {o : Nat} (ho : o < nO s) {n l : Int32} {y : Spt} (hy : y ∈ fldW s o n l) : SpOK s y := by
  unfold fldW at hy
  have h60 := ivo.2.1
  split at hy
  · next hh =>
    obtain ⟨o', f, ho', eo, hf, rfl⟩ := hh
    obtain rfl := nI_inj8 (by omega) (by omega) eo
    have hf8 := (ivs.2.2.1 _ (ivo.2.2 o ho).2).2
    rw [cl f (by omega)] at hy
    split at hy
    · next hk =>
      split at hy
      · exact absurd hy (by simp)
      · next hm =>
        obtain rfl := List.mem_singleton.mp hy
        obtain ⟨t, ht, e⟩ := ((ivv o ho f hf).1 hk.1).resolve_left hm
        exact ⟨t, ht, e, Or.inl rfl⟩
    · obtain rfl := List.mem_singleton.mp hy
      exact ⟨o, ho, rfl, Or.inr ⟨f, hf, rfl⟩⟩
  · exact absurd hy (by simp)
theorem lsP_ok {s : Mem} {P : Nat → Int32} {m : Nat} (hP : ∀ i, i < m → ∃ t, t < nO s ∧ P i = nI t) {y : Spt} : ∀ n a, y ∈ lsP P m a n → SpOK s y
  | 0, _, h => by simp [lsP] at h
  | n + 1, a, h => by
    simp only [lsP, List.mem_append] at h
    rcases h with h | h
    · split at h
      · next q =>
        obtain rfl := List.mem_singleton.mp h
        obtain ⟨t, ht, e⟩ := hP a q
        exact ⟨t, ht, e, Or.inl rfl⟩
      · simp at h
    · exact lsP_ok hP n (a + 1) h
theorem stW_ok {s : Mem} (ivs : IvS s) (ivo : IvO s) (ivv : IvV s) {k n l : Int32} {x : Spt} (hx : SpOK s x) {y : Spt} (hy : y ∈ stW s k n l x) : SpOK s y := by
  obtain ⟨o, ho, e1, e2⟩ := hx
  have h60 := ivo.2.1
  unfold stW at hy
  rw [e1, cl o (by omega)] at hy
  split at hy
  · exact fldW_ok ivs ivo ivv ho hy
  · split at hy
    · obtain rfl := List.mem_singleton.mp hy
      exact ⟨o, ho, rfl, Or.inl rfl⟩
    · split at hy
      · next h =>
        obtain ⟨f, hf, ef⟩ := e2.resolve_left h.2.2
        have hf8 := (ivs.2.2.1 _ (ivo.2.2 o ho).2).2
        rw [ef, cl f (by omega)] at hy
        unfold lstW at hy
        split at hy
        · next h2 =>
          obtain ⟨len, h6, hl, hp⟩ := (ivv o ho f hf).2 h2
          rw [hl, cl len (by omega)] at hy
          exact lsP_ok hp _ _ hy
        · simp at hy
      · simp at hy
theorem wlkL_ok {s : Mem} (ivs : IvS s) (ivo : IvO s) (ivv : IvV s) {p o : Nat} (ho : o < nO s) : ∀ i x, x ∈ wlkL s p o i → SpOK s x
  | 0, x, h => by
    obtain rfl := List.mem_singleton.mp h
    exact ⟨o, ho, rfl, Or.inl rfl⟩
  | i + 1, x, h => by
    obtain ⟨y, hy, hx⟩ := List.mem_flatMap.mp h
    exact stW_ok ivs ivo ivv (wlkL_ok ivs ivo ivv ho i y hy) hx
theorem wlkL_s {s : Mem} (ivs : IvS s) (ivo : IvO s) (ivv : IvV s) {p o : Nat} (ho : o < nO s) (i a b : Nat) (ha : (wlkL s p o i).length ≤ a) (hb : wP (wlkL s p o i) ≤ b) : ((wlkL s p o (i + 1)).length ≤ a ∧ wP (wlkL s p o (i + 1)) ≤ 6 * a) ∨ ((wlkL s p o (i + 1)).length ≤ b ∧ wP (wlkL s p o (i + 1)) ≤ b) := by
  by_cases hk : s.2 35 (5 * p + i) = 0
  · have := fm_b (f := stW s (s.2 35 (5 * p + i)) (s.2 36 (5 * p + i)) (b01 (i + 1 = sp s p))) (A := 0) (B := fun _ => 0) (wlkL s p o i) (fun x _ => stW_b0 hk)
    left
    simp only [wlkL]
    omega
  · have := fm_b2 (f := stW s (s.2 35 (5 * p + i)) (s.2 36 (5 * p + i)) (b01 (i + 1 = sp s p))) (wlkL s p o i) (fun x hx => stW_b ivs ivo ivv (wlkL_ok ivs ivo ivv ho i x hx) hk)
    right
    simp only [wlkL]
    omega
theorem wlkL_36 {s : Mem} (ivs : IvS s) (ivo : IvO s) (ivv : IvV s) {p o : Nat} (ho : o < nO s) : ∀ i, i ≤ 5 → (wlkL s p o i).length ≤ 36 := by
  have a0 : (wlkL s p o 0).length ≤ 1 ∧ wP (wlkL s p o 0) ≤ 1 := by simp [wlkL, wP]
  have a1 : (wlkL s p o 1).length ≤ 1 ∧ wP (wlkL s p o 1) ≤ 6 := by rcases wlkL_s ivs ivo ivv ho (p := p) 0 1 1 a0.1 a0.2 with q | q <;> simp only [Nat.zero_add] at q <;> omega
  have a2 : (wlkL s p o 2).length ≤ 6 ∧ wP (wlkL s p o 2) ≤ 6 := by rcases wlkL_s ivs ivo ivv ho (p := p) 1 1 6 a1.1 a1.2 with q | q <;> simp only [Nat.reduceAdd] at q <;> omega
  have a3 : (wlkL s p o 3).length ≤ 6 ∧ wP (wlkL s p o 3) ≤ 36 := by rcases wlkL_s ivs ivo ivv ho (p := p) 2 6 6 a2.1 a2.2 with q | q <;> simp only [Nat.reduceAdd] at q <;> omega
  have a4 : (wlkL s p o 4).length ≤ 36 ∧ wP (wlkL s p o 4) ≤ 36 := by rcases wlkL_s ivs ivo ivv ho (p := p) 3 6 36 a3.1 a3.2 with q | q <;> simp only [Nat.reduceAdd] at q <;> omega
  have a5 : (wlkL s p o 5).length ≤ 36 := by rcases wlkL_s ivs ivo ivv ho (p := p) 4 36 36 a4.1 a4.2 with q | q <;> simp only [Nat.reduceAdd] at q <;> omega
  intro i hi
  rcases (show i = 0 ∨ i = 1 ∨ i = 2 ∨ i = 3 ∨ i = 4 ∨ i = 5 by omega) with rfl | rfl | rfl | rfl | rfl | rfl <;> omega
theorem lp_wk2 (G : Gk) {m : Nat} {am : Nat → Nat} {h0 : Hp} (N : Nat) (hN : N ≤ 36) (A B : Nat → Int32) (s : Mem) (a1 a2 a3 a4 a5 : Int32) (l7 l8 : Option Value) (post : Option Value → Hp → Prop)
    (K : ∀ h t l6, Mod h0 m am h t → Sc s t → t.1 37 = nI N → (∀ k, k < N → t.2 38 k = A k ∧ t.2 39 k = B k) → V G md_walk post h 0 0 256 [some (.ref m), some (.int a1), some (.int a2), some (.int a3), some (.int a4), some (.int a5), l6, l7, l8] []) : ∀ (c j : Nat) (h : Hp) (t : Mem), j + c = N → Mod h0 m am h t → Sc s t → t.1 37 = nI N → (∀ k, k < j → t.2 38 k = A k ∧ t.2 39 k = B k) → t.2 41 = A → t.2 42 = B →
    V G md_walk post h 0 0 213 [some (.ref m), some (.int a1), some (.int a2), some (.int a3), some (.int a4), some (.int a5), some (.int (nI j)), l7, l8] [] := by
  intro c
  induction c with
  | zero =>
    intro j h t hj hM hS h37 hF e41 e42
    have r := hM.1
    refine V_iload d_md_walk_213 rfl ?_
    refine V_aload_n d_md_walk_215 rfl rfl ?_
    refine V_getf d_md_walk_216 fl_md_269 r.obj rfl ?_
    rw [h37]
    refine V_icmp_ge d_md_walk_219 (fun c219 => ?_) (fun c219 => ?_)
    · skip
      obtain rfl : j = N := by omega
      exact K _ _ _ hM hS h37 hF
    · skip
      exact absurd (ltN c219 (by omega)) (by omega)
  | succ c ih =>
    intro j h t hj hM hS h37 hF e41 e42
    have r := hM.1
    refine V_iload d_md_walk_213 rfl ?_
    refine V_aload_n d_md_walk_215 rfl rfl ?_
    refine V_getf d_md_walk_216 fl_md_269 r.obj rfl ?_
    rw [h37]
    refine V_icmp_ge d_md_walk_219 (fun c219 => ?_) (fun c219 => ?_)
    · skip
      exact absurd (geN c219 (by omega)) (by omega)
    · skip
      refine V_aload_n d_md_walk_222 rfl rfl ?_
      refine V_getf d_md_walk_223 fl_md_92 r.obj rfl ?_
      refine V_iload d_md_walk_226 rfl ?_
      refine V_aload_n d_md_walk_228 rfl rfl ?_
      refine V_getf d_md_walk_229 fl_md_98 r.obj rfl ?_
      refine V_iload d_md_walk_232 rfl ?_
      refine V_mald r d_md_walk_234 (by first | with_reducible rfl | exact ix8 _ _ | exact ix6 _ _ | assumption) rfl rfl (by show _ < 600; omega) ?_
      refine V_mast r d_md_walk_235 (by first | with_reducible rfl | exact ix8 _ _ | exact ix6 _ _ | assumption) rfl rfl (by show _ < 600; omega) (fun h235 M235 => ?_)
      have R235 := M235.1
      refine V_aload_n d_md_walk_236 rfl rfl ?_
      refine V_getf d_md_walk_237 fl_md_95 R235.obj rfl ?_
      refine V_iload d_md_walk_240 rfl ?_
      refine V_aload_n d_md_walk_242 rfl rfl ?_
      refine V_getf d_md_walk_243 fl_md_101 R235.obj rfl ?_
      refine V_iload d_md_walk_246 rfl ?_
      refine V_mald R235 d_md_walk_248 (by first | with_reducible rfl | exact ix8 _ _ | exact ix6 _ _ | assumption) rfl rfl (by show _ < 600; omega) ?_
      refine V_mast R235 d_md_walk_249 (by first | with_reducible rfl | exact ix8 _ _ | exact ix6 _ _ | assumption) rfl rfl (by show _ < 600; omega) (fun h249 M249 => ?_)
      have R249 := M249.1
      refine V_iinc (v := _) d_md_walk_250 rfl rfl (by decide) rfl rfl ?_
      dsimp only [List.set]
      refine V_goto d_md_walk_253 ?_
      rw [show Int32.ofInt 1 = 1 from rfl, nI_1]
      refine ih (j + 1) _ _ (by omega) ((hM.trans M235).trans M249) (hS.trans ⟨fun q _ => rfl, fun q hq => ?_⟩) h37 (fun k hk => ?_) ?_ ?_
      · rw [mA_2n _ _ _ (by rintro rfl; exact absurd hq (by decide)), mA_2n _ _ _ (by rintro rfl; exact absurd hq (by decide))]
      · (rw [mA_2s, mA_2n _ _ _ (show (39 : Nat) ≠ 38 by decide), mA_2n _ _ _ (show (38 : Nat) ≠ 39 by decide), mA_2s]; exact (Nat.lt_succ_iff_lt_or_eq.mp hk).elim (fun q => by rw [pk_un (by omega), pk_un (by omega)]; exact hF k q) (fun q => by subst q; rw [pk_us, pk_us, e41, mA_2n _ _ _ (by decide), e42]; exact ⟨rfl, rfl⟩))
      · rw [mA_2n _ _ _ (by decide), mA_2n _ _ _ (by decide)]; exact e41
      · rw [mA_2n _ _ _ (by decide), mA_2n _ _ _ (by decide)]; exact e42
theorem lp_wk (G : Gk) {m : Nat} {am : Nat → Nat} {s : Mem} {h0 : Hp} (ivs : IvS s) (ivo : IvO s) (ivv : IvV s) (ivp : IvP s) (p o : Nat) (hp : p < nP s) (ho : o < nO s) (ob : Int32) : ∀ (c i : Nat) (h : Hp) (t : Mem) (l4 l5 l6 l7 l8 : Option Value), i + c = sp s p → Mod h0 m am h t → Sc s t → FW (wlkL s p o i) t →
    V G md_walk (pN fun h' => ∃ t, Mod h0 m am h' t ∧ Sc s t ∧ FW (wlkL s p o (sp s p)) t) h 0 0 21 [some (.ref m), some (.int (nI p)), some (.int ob), some (.int (nI i)), l4, l5, l6, l7, l8] [] := by
  have h60 := ivo.2.1
  obtain ⟨h33, h16, hst⟩ := id ivp
  obtain ⟨h34, h5, hok⟩ := hst p hp
  intro c
  induction c with
  | zero =>
    intro i h t l4 l5 l6 l7 l8 hi hM hS hF
    have r := hM.1
    refine V_iload_n d_md_walk_21 rfl rfl ?_
    refine V_aload_n d_md_walk_22 rfl rfl ?_
    refine V_getf d_md_walk_23 fl_md_83 r.obj rfl ?_
    refine V_iload_n d_md_walk_26 rfl rfl ?_
    refine V_mald r d_md_walk_27 (by first | with_reducible rfl | exact ix8 _ _ | exact ix6 _ _ | assumption) rfl rfl (by show _ < 16; omega) ?_
    rw [hS.2 34 rfl, h34]
    refine V_icmp_ge d_md_walk_28 (fun c28 => ?_) (fun c28 => ?_)
    · skip
      refine V_return d_md_walk_262 rfl ?_
      obtain rfl : i = sp s p := by omega
      exact ⟨rfl, t, hM, hS, hF⟩
    · skip
      exact absurd (ltN c28 (by omega)) (by omega)
  | succ c ih =>
    intro i h t l4 l5 l6 l7 l8 hi hM hS hF
    have r := hM.1
    have hw := wlkL_36 ivs ivo ivv (p := p) ho i (by omega)
    have hw2 := wlkL_36 ivs ivo ivv (p := p) ho (i + 1) (by omega)
    have fin : ∀ h1 t1 l6 l7 l8, Mod h0 m am h1 t1 → Sc s t1 → NX (wlkL s p o (i + 1)) t1 → V G md_walk (pN fun h' => ∃ t, Mod h0 m am h' t ∧ Sc s t ∧ FW (wlkL s p o (sp s p)) t) h1 0 0 202 [some (.ref m), some (.int (nI p)), some (.int ob), some (.int (nI i)), some (.int (s.2 35 (5 * p + i))), some (.int (s.2 36 (5 * p + i))), l6, l7, l8] [] := by
      intro h1 t1 l6 l7 l8 M1 S1 N1
      have R1 := M1.1
      refine V_aload_n d_md_walk_202 rfl rfl ?_
      refine V_aload_n d_md_walk_203 rfl rfl ?_
      refine V_getf d_md_walk_204 fl_md_263 R1.obj rfl ?_
      rw [N1.1]
      refine V_mput (j := 37) R1 d_md_walk_207 fp_md_269 rfl rfl (by decide) (fun h207 M207 => ?_)
      have R207 := M207.1
      refine V_iconst (v := 0) d_md_walk_210 (by decide) ?_
      refine V_istore d_md_walk_211 (by decide) rfl rfl ?_
      dsimp only [List.set]
      refine lp_wk2 G (wlkL s p o (i + 1)).length hw2 (t1.2 41) (t1.2 42) s _ _ _ _ _ _ _ _ (fun h2 t2 l6 M2 S2 e37 F2 => ?_) (wlkL s p o (i + 1)).length 0 _ _ (by omega) (M1.trans M207) (S1.trans ⟨fun q hq => mF_1n _ _ (by rintro rfl; exact absurd hq (by decide)), fun q _ => rfl⟩) (by rw [mF_1s]) (fun k hk => by omega) rfl rfl
      refine V_iinc d_md_walk_256 rfl rfl (by decide) rfl rfl ?_
      dsimp only [List.set]
      refine V_goto d_md_walk_259 ?_
      rw [show Int32.ofInt 1 = 1 from rfl, nI_1]
      refine ih (i + 1) _ t2 _ _ _ _ _ (by omega) M2 S2 ⟨e37, fun k x hk => ?_⟩
      obtain ⟨g1, g2⟩ := F2 k (List.getElem?_eq_some_iff.mp hk).1
      rw [g1, g2]
      exact N1.2 k x hk
    refine V_iload_n d_md_walk_21 rfl rfl ?_
    refine V_aload_n d_md_walk_22 rfl rfl ?_
    refine V_getf d_md_walk_23 fl_md_83 r.obj rfl ?_
    refine V_iload_n d_md_walk_26 rfl rfl ?_
    refine V_mald r d_md_walk_27 (by first | with_reducible rfl | exact ix8 _ _ | exact ix6 _ _ | assumption) rfl rfl (by show _ < 16; omega) ?_
    rw [hS.2 34 rfl, h34]
    refine V_icmp_ge d_md_walk_28 (fun c28 => ?_) (fun c28 => ?_)
    · skip
      exact absurd (geN c28 (by omega)) (by omega)
    · skip
      refine V_aload_n d_md_walk_31 rfl rfl ?_
      refine V_getf d_md_walk_32 fl_md_86 r.obj rfl ?_
      refine V_iconst (v := 5) d_md_walk_35 (by decide) ?_
      refine V_iload_n d_md_walk_36 rfl rfl ?_
      refine V_imul d_md_walk_37 ?_
      refine V_iload_n d_md_walk_38 rfl rfl ?_
      refine V_iadd d_md_walk_39 ?_
      rw [ix5]
      refine V_mald r d_md_walk_40 (by first | with_reducible rfl | exact ix8 _ _ | exact ix6 _ _ | assumption) rfl rfl (by show _ < 80; omega) ?_
      rw [hS.2 35 rfl]
      refine V_istore d_md_walk_41 (by decide) rfl rfl ?_
      dsimp only [List.set]
      refine V_aload_n d_md_walk_43 rfl rfl ?_
      refine V_getf d_md_walk_44 fl_md_89 r.obj rfl ?_
      refine V_iconst (v := 5) d_md_walk_47 (by decide) ?_
      refine V_iload_n d_md_walk_48 rfl rfl ?_
      refine V_imul d_md_walk_49 ?_
      refine V_iload_n d_md_walk_50 rfl rfl ?_
      refine V_iadd d_md_walk_51 ?_
      rw [ix5]
      refine V_mald r d_md_walk_52 (by first | with_reducible rfl | exact ix8 _ _ | exact ix6 _ _ | assumption) rfl rfl (by show _ < 80; omega) ?_
      rw [hS.2 36 rfl]
      refine V_istore d_md_walk_53 (by decide) rfl rfl ?_
      dsimp only [List.set]
      refine V_aload_n d_md_walk_55 rfl rfl ?_
      refine V_iconst (v := 0) d_md_walk_56 (by decide) ?_
      refine V_mput (j := 40) r d_md_walk_57 fp_md_263 rfl rfl (by decide) (fun h57 M57 => ?_)
      have R57 := M57.1
      refine V_iconst (v := 0) d_md_walk_60 (by decide) ?_
      refine V_istore d_md_walk_61 (by decide) rfl rfl ?_
      dsimp only [List.set]
      refine lp_wk1 G ivs ivo ivv ivp p i hp (by omega) ob _ _ _ rfl (hok i (by omega)) (wlkL s p o i) (fun x hx => wlkL_ok ivs ivo ivv ho i x hx) hw hw2 _ (fun h1 t1 l6 l7 l8 M1 S1 N1 => fin h1 t1 l6 l7 l8 M1 S1 N1) (wlkL s p o i).length 0 _ _ _ _ (by omega) (hM.trans M57) (hS.trans ⟨fun q hq => mF_1n _ _ (by rintro rfl; exact absurd hq (by decide)), fun q _ => rfl⟩) ⟨by rw [mF_1n _ _ (by decide)]; exact hF.1, hF.2⟩ ⟨by rw [mF_1s]; rfl, fun k x hk => absurd hk (by simp)⟩
theorem sp_md_walk (G : Gk) {h : Hp} {m : Nat} {am : Nat → Nat} {s : Mem} (r : RepM h m am s) (ivs : IvS s) (ivo : IvO s) (ivv : IvV s) (ivp : IvP s) (p o : Nat) (hp : p < nP s) (ho : o < nO s) : Ct G md_walk [.ref m, .int (nI p), .int (nI o)] h (pN fun h' => ∃ t, Mod h m am h' t ∧ Sc s t ∧ FW (wlkL s p o (sp s p)) t) := by
  refine Ct.ofL (M := md_walk) (lv := [some (.ref m), some (.int (nI p)), some (.int (nI o)), none, none, none, none, none, none]) mdf_md_walk rfl (Nat.le_of_ble_eq_true rfl) rfl ?_
  refine V_aload_n d_md_walk_0 rfl rfl ?_
  refine V_iconst (v := 1) d_md_walk_1 (by decide) ?_
  refine V_mput (j := 37) r d_md_walk_2 fp_md_269 rfl rfl (by decide) (fun h2 M2 => ?_)
  have R2 := M2.1
  refine V_aload_n d_md_walk_5 rfl rfl ?_
  refine V_getf d_md_walk_6 fl_md_92 R2.obj rfl ?_
  refine V_iconst (v := 0) d_md_walk_9 (by decide) ?_
  refine V_iload_n d_md_walk_10 rfl rfl ?_
  refine V_mast R2 d_md_walk_11 (show (0 : Int32) = nI 0 from rfl) rfl rfl (by show _ < 600; omega) (fun h11 M11 => ?_)
  have R11 := M11.1
  refine V_aload_n d_md_walk_12 rfl rfl ?_
  refine V_getf d_md_walk_13 fl_md_95 R11.obj rfl ?_
  refine V_iconst (v := 0) d_md_walk_16 (by decide) ?_
  refine V_iconst (v := -1) d_md_walk_17 (by decide) ?_
  refine V_mast R11 d_md_walk_18 (show (0 : Int32) = nI 0 from rfl) rfl rfl (by show _ < 600; omega) (fun h18 M18 => ?_)
  have R18 := M18.1
  refine V_iconst (v := 0) d_md_walk_19 (by decide) ?_
  refine V_istore_n d_md_walk_20 rfl (by decide) rfl rfl ?_
  dsimp only [List.set]
  refine lp_wk G ivs ivo ivv ivp p o hp ho _ (sp s p) 0 _ _ _ _ _ _ _ (by omega) ((M2.trans M11).trans M18) ⟨fun q hq => ?_, fun q hq => ?_⟩ ⟨?_, ?_⟩
  · rw [mA_1, mA_1, mF_1n _ _ (by rintro rfl; exact absurd hq (by decide))]
  · rw [mA_2n _ _ _ (by rintro rfl; exact absurd hq (by decide)), mA_2n _ _ _ (by rintro rfl; exact absurd hq (by decide)), mF_2]
  · rw [mA_1, mA_1, mF_1s]; rfl
  · (intro k x hk; obtain rfl : k = 0 := (by have := (List.getElem?_eq_some_iff.mp hk).1; simp [wlkL] at this; exact this); obtain rfl : (nI o, (-1 : Int32)) = x := (by simpa [wlkL] using hk); exact ⟨by rw [mA_2n _ _ _ (by decide), mA_2s, pk_us], by rw [mA_2s, pk_us]⟩)
theorem sp_md_matches (G : Gk) {h : Hp} {m : Nat} {am : Nat → Nat} {s : Mem} (r : RepM h m am s) (ivs : IvS s) (ivo : IvO s) (ivv : IvV s) (ivp : IvP s) (v w : Int32) : Ct G md_matches [.ref m, .int v, .int w] h
    (pI fun r h' => (¬ (isPa s v ∧ isOb s w) ∧ h = h' ∧ r = -2) ∨ ∃ p o, p < nP s ∧ o < nO s ∧ v = nI p ∧ w = nI o ∧ (∃ t, Mod h m am h' t ∧ Sc s t) ∧ r = nI (wlkL s p o (sp s p)).length) := by
  refine Ct.ofL (M := md_matches) (lv := [some (.ref m), some (.int v), some (.int w)]) mdf_md_matches rfl (Nat.le_of_ble_eq_true rfl) rfl ?_
  refine V_aload_n d_md_matches_0 rfl rfl ?_
  refine V_iload_n d_md_matches_1 rfl rfl ?_
  refine V_callV (N := md_isPath) d_md_matches_2 ml_md_260 mdf_md_isPath wi_md_isPath wz_md_isPath (sp_md_isPath G r _) r.obj ⟨_, rfl, rfl⟩ rfl rfl (by decide) (by decide) (Nat.le_of_ble_eq_true rfl) rfl rfl (kI fun r2 h2 ⟨e2, f2⟩ => ?_)
  subst e2 f2
  refine V_if_eq d_md_matches_5 (fun c5 => ?_) (fun c5 => ?_)
  · skip
    refine V_bipush (v := -2) d_md_matches_16 (by decide) ?_
    refine V_ireturn d_md_matches_18 rfl ?_
    exact ⟨_, rfl, Or.inl ⟨fun q => b01_e c5 q.1, rfl, rfl⟩⟩
  · skip
    refine V_aload_n d_md_matches_8 rfl rfl ?_
    refine V_iload_n d_md_matches_9 rfl rfl ?_
    refine V_callV (N := md_isObject) d_md_matches_10 ml_md_149 mdf_md_isObject wi_md_isObject wz_md_isObject (sp_md_isObject G r _) r.obj ⟨_, rfl, rfl⟩ rfl rfl (by decide) (by decide) (Nat.le_of_ble_eq_true rfl) rfl rfl (kI fun r10 h10 ⟨e10, f10⟩ => ?_)
    subst e10 f10
    refine V_if_ne d_md_matches_13 (fun c13 => ?_) (fun c13 => ?_)
    · skip
      obtain ⟨p, hp, rfl⟩ := isPa.ix ivp (b01_ne c5)
      obtain ⟨o, ho, rfl⟩ := isOb.ix ivo (b01_ne c13)
      refine V_aload_n d_md_matches_19 rfl rfl ?_
      refine V_iload_n d_md_matches_20 rfl rfl ?_
      refine V_iload_n d_md_matches_21 rfl rfl ?_
      refine V_callV (N := md_walk) d_md_matches_22 ml_md_280 mdf_md_walk wi_md_walk wz_md_walk (sp_md_walk G r ivs ivo ivv ivp p o hp ho) r.obj ⟨_, rfl, rfl⟩ rfl rfl (by decide) (by decide) (Nat.le_of_ble_eq_true rfl) rfl rfl (kN fun h22 ⟨t, M22, S22, F22⟩ => ?_)
      have R22 := M22.1
      refine V_aload_n d_md_matches_25 rfl rfl ?_
      refine V_getf d_md_matches_26 fl_md_269 R22.obj rfl ?_
      rw [F22.1]
      refine V_ireturn d_md_matches_29 rfl ?_
      exact ⟨_, rfl, Or.inr ⟨p, o, hp, ho, rfl, rfl, ⟨t, M22, S22⟩, rfl⟩⟩
    · skip
      refine V_bipush (v := -2) d_md_matches_16 (by decide) ?_
      refine V_ireturn d_md_matches_18 rfl ?_
      exact ⟨_, rfl, Or.inl ⟨fun q => b01_e c13 q.2, rfl, rfl⟩⟩
noncomputable def mchM (L : List Spt) (i w : Int32) : Int32 := @ite _ (0 ≤ i ∧ i ≤ nI L.length - 1) (Classical.propDecidable _) (if w = 0 then (L[i.toNatClampNeg]?.getD (0, 0)).1 else (L[i.toNatClampNeg]?.getD (0, 0)).2) (-1)
theorem sp_md_match (G : Gk) {h : Hp} {m : Nat} {am : Nat → Nat} {s : Mem} (r : RepM h m am s) (ivs : IvS s) (ivo : IvO s) (ivv : IvV s) (ivp : IvP s) (v w i x : Int32) : Ct G md_match [.ref m, .int v, .int w, .int i, .int x] h
    (pI fun r h' => (¬ (isPa s v ∧ isOb s w ∧ 0 ≤ x ∧ x ≤ 1) ∧ h = h' ∧ r = -2) ∨ ∃ p o, p < nP s ∧ o < nO s ∧ v = nI p ∧ w = nI o ∧ (0 ≤ x ∧ x ≤ 1) ∧ (∃ t, Mod h m am h' t ∧ Sc s t) ∧ r = mchM (wlkL s p o (sp s p)) i x) := by
  refine Ct.ofL (M := md_match) (lv := [some (.ref m), some (.int v), some (.int w), some (.int i), some (.int x)]) mdf_md_match rfl (Nat.le_of_ble_eq_true rfl) rfl ?_
  refine V_aload_n d_md_match_0 rfl rfl ?_
  refine V_iload_n d_md_match_1 rfl rfl ?_
  refine V_callV (N := md_isPath) d_md_match_2 ml_md_260 mdf_md_isPath wi_md_isPath wz_md_isPath (sp_md_isPath G r _) r.obj ⟨_, rfl, rfl⟩ rfl rfl (by decide) (by decide) (Nat.le_of_ble_eq_true rfl) rfl rfl (kI fun r2 h2 ⟨e2, f2⟩ => ?_)
  subst e2 f2
  refine V_if_eq d_md_match_5 (fun c5 => ?_) (fun c5 => ?_)
  · skip
    refine V_bipush (v := -2) d_md_match_26 (by decide) ?_
    refine V_ireturn d_md_match_28 rfl ?_
    exact ⟨_, rfl, Or.inl ⟨fun q => b01_e c5 q.1, rfl, rfl⟩⟩
  · skip
    refine V_aload_n d_md_match_8 rfl rfl ?_
    refine V_iload_n d_md_match_9 rfl rfl ?_
    refine V_callV (N := md_isObject) d_md_match_10 ml_md_149 mdf_md_isObject wi_md_isObject wz_md_isObject (sp_md_isObject G r _) r.obj ⟨_, rfl, rfl⟩ rfl rfl (by decide) (by decide) (Nat.le_of_ble_eq_true rfl) rfl rfl (kI fun r10 h10 ⟨e10, f10⟩ => ?_)
    subst e10 f10
    refine V_if_eq d_md_match_13 (fun c13 => ?_) (fun c13 => ?_)
    · skip
      refine V_bipush (v := -2) d_md_match_26 (by decide) ?_
      refine V_ireturn d_md_match_28 rfl ?_
      exact ⟨_, rfl, Or.inl ⟨fun q => b01_e c13 q.2.1, rfl, rfl⟩⟩
    · skip
      refine V_iload d_md_match_16 rfl ?_
      refine V_iconst (v := 0) d_md_match_18 (by decide) ?_
      refine V_iconst (v := 1) d_md_match_19 (by decide) ?_
      refine V_callS (N := md_in) d_md_match_20 ml_md_114 mdf_md_in ws_md_in (sp_md_in G _ _ _ _) rfl rfl (by decide) (by decide) (Nat.le_of_ble_eq_true rfl) rfl rfl (kI fun r20 h20 ⟨e20, f20⟩ => ?_)
      subst e20 f20
      refine V_if_ne d_md_match_23 (fun c23 => ?_) (fun c23 => ?_)
      · skip
        obtain ⟨p, hp, rfl⟩ := isPa.ix ivp (b01_ne c5)
        obtain ⟨o, ho, rfl⟩ := isOb.ix ivo (b01_ne c13)
        have hx := b01_ne c23
        have h36 := wlkL_36 ivs ivo ivv (p := p) ho (sp s p) (by have := (ivp.2.2 p hp).2.1; omega)
        refine V_aload_n d_md_match_29 rfl rfl ?_
        refine V_iload_n d_md_match_30 rfl rfl ?_
        refine V_iload_n d_md_match_31 rfl rfl ?_
        refine V_callV (N := md_walk) d_md_match_32 ml_md_280 mdf_md_walk wi_md_walk wz_md_walk (sp_md_walk G r ivs ivo ivv ivp p o hp ho) r.obj ⟨_, rfl, rfl⟩ rfl rfl (by decide) (by decide) (Nat.le_of_ble_eq_true rfl) rfl rfl (kN fun h32 ⟨t, M32, S32, F32⟩ => ?_)
        have R32 := M32.1
        refine V_iload_n d_md_match_35 rfl rfl ?_
        refine V_iconst (v := 0) d_md_match_36 (by decide) ?_
        refine V_aload_n d_md_match_37 rfl rfl ?_
        refine V_getf d_md_match_38 fl_md_269 R32.obj rfl ?_
        rw [F32.1]
        refine V_iconst (v := 1) d_md_match_41 (by decide) ?_
        refine V_isub d_md_match_42 ?_
        refine V_callS (N := md_in) d_md_match_43 ml_md_114 mdf_md_in ws_md_in (sp_md_in G _ _ _ _) rfl rfl (by decide) (by decide) (Nat.le_of_ble_eq_true rfl) rfl rfl (kI fun r43 h43 ⟨e43, f43⟩ => ?_)
        subst e43 f43
        refine V_if_ne d_md_match_46 (fun c46 => ?_) (fun c46 => ?_)
        · skip
          have hi := b01_ne c46
          obtain ⟨j, hj, rfl⟩ := ix_of (n := (wlkL s p o (sp s p)).length) rfl (by omega) (b01_ne c46)
          have cj := cl j (by omega)
          obtain ⟨y, hy⟩ : ∃ y, (wlkL s p o (sp s p))[j]? = some y := ⟨_, List.getElem?_eq_getElem hj⟩
          obtain ⟨y1, y2⟩ := F32.2 j y hy
          refine V_iload d_md_match_53 rfl ?_
          refine V_if_ne d_md_match_55 (fun c55 => ?_) (fun c55 => ?_)
          · skip
            refine V_aload_n d_md_match_67 rfl rfl ?_
            refine V_getf d_md_match_68 fl_md_95 R32.obj rfl ?_
            refine V_iload_n d_md_match_71 rfl rfl ?_
            refine V_mald R32 d_md_match_72 (by first | with_reducible rfl | exact ix8 _ _ | exact ix6 _ _ | assumption) rfl rfl (by show _ < 600; omega) ?_
            refine V_ireturn d_md_match_73 rfl ?_
            refine ⟨_, rfl, Or.inr ⟨p, o, hp, ho, rfl, rfl, hx, ⟨t, M32, S32⟩, ?_⟩⟩
            rw [mchM, if_pos hi, if_neg c55, cj, hy, y2]
            rfl
          · skip
            refine V_aload_n d_md_match_58 rfl rfl ?_
            refine V_getf d_md_match_59 fl_md_92 R32.obj rfl ?_
            refine V_iload_n d_md_match_62 rfl rfl ?_
            refine V_mald R32 d_md_match_63 (by first | with_reducible rfl | exact ix8 _ _ | exact ix6 _ _ | assumption) rfl rfl (by show _ < 600; omega) ?_
            refine V_goto d_md_match_64 ?_
            refine V_ireturn d_md_match_73 rfl ?_
            refine ⟨_, rfl, Or.inr ⟨p, o, hp, ho, rfl, rfl, hx, ⟨t, M32, S32⟩, ?_⟩⟩
            rw [mchM, if_pos hi, if_pos c55, cj, hy, y1]
            rfl
        · skip
          refine V_iconst (v := -1) d_md_match_49 (by decide) ?_
          refine V_goto d_md_match_50 ?_
          refine V_ireturn d_md_match_73 rfl ?_
          refine ⟨_, rfl, Or.inr ⟨p, o, hp, ho, rfl, rfl, hx, ⟨t, M32, S32⟩, ?_⟩⟩
          rw [mchM, if_neg (b01_e c46)]
      · skip
        refine V_bipush (v := -2) d_md_match_26 (by decide) ?_
        refine V_ireturn d_md_match_28 rfl ?_
        exact ⟨_, rfl, Or.inl ⟨fun q => b01_e c23 q.2.2, rfl, rfl⟩⟩
