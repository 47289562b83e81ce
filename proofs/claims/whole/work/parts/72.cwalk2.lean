/-! go, walk, matches, match -/
theorem sp_fe_go (G : Gk) {g : Gm} {h : Hp} {s : Mem} (R : RB g h s) (hm : Sm s) (ivs : IvS s) (ivo : IvO s) (ivv : IvV s) (ivp : IvP s) {p i b o : Nat} {L : List Spt} {fv : Int32} (hp : p < nP s) (hi : i < sp s p) (hb : b < 2) (ho : o < nO s) (hfv : fv = -1 ∨ ∃ f, f < nf s (sh s o) ∧ fv = nI f) (hS : SoR h (g.2 (16 + b)) (g.2 (18 + b)) (g.2 (20 + b)) L)
    (hl : (L ++ stW s (s.2 35 (5 * p + i)) (s.2 36 (5 * p + i)) (b01 (i + 1 = sp s p)) (nI o, fv)).length ≤ 36) : Ct G fe_go [.ref (g.2 2), .ref (g.2 (400 + p)), .int (nI i), .int (nI o), .int fv, .ref (g.2 (16 + b))] h (pN fun h' => SoR h' (g.2 (16 + b)) (g.2 (18 + b)) (g.2 (20 + b)) (L ++ stW s (s.2 35 (5 * p + i)) (s.2 36 (5 * p + i)) (b01 (i + 1 = sp s p)) (nI o, fv)) ∧ Fr3 h (g.2 (16 + b)) (g.2 (18 + b)) (g.2 (20 + b)) h') := by
  have X := R.1
  have n60 := ivo.2.1
  have n10 := ivs.2.1
  obtain ⟨Lp, l1, l2, l3⟩ := R.2.2.2.1
  obtain ⟨esp, h5, hst⟩ := ivp.2.2 p hp
  obtain ⟨P1, u, w, P2, P3, P4⟩ := (l3 p hp).2
  rw [esp] at P1
  obtain ⟨eu, ew⟩ := P4 i hi
  have hok := hst i hi
  obtain ⟨T, t1, t2, t3⟩ := R.2.2.1
  obtain ⟨tt, u1, u2, W, w1, w2, w3⟩ := t3 o ho
  obtain ⟨es, hs⟩ := ivo.2.2 o ho
  have n8 := (ivs.2.2.1 _ hs).2
  have hSa : ∃ ws, h (g.2 (16 + b)) = some (9, ws) := by obtain ⟨_, _, z, _⟩ := hS; exact ⟨_, z⟩
  obtain ⟨ws, hSa⟩ := hSa
  generalize ek : s.2 35 (5 * p + i) = k at hok hl eu ⊢
  generalize en : s.2 36 (5 * p + i) = n at hok hl ew ⊢
  have kc := r5 hok.1
  have hq : ∀ {L' : List Spt}, L' = [] → L ++ L' = L := fun e => by rw [e, List.append_nil]
  refine Ct.ofL (M := fe_go) (lv := [some (.ref (g.2 2)), some (.ref (g.2 (400 + p))), some (.int (nI i)), some (.int (nI o)), some (.int fv), some (.ref (g.2 (16 + b))), none, none, none]) mdf_fe_go rfl (Nat.le_of_ble_eq_true rfl) rfl ?_
  refine V_aload_n d_fe_go_0 rfl rfl ?_
  refine V_getf d_fe_go_1 fl_fe_381 P1.1 rfl ?_
  refine V_iload_n d_fe_go_4 rfl rfl ?_
  refine V_iald i d_fe_go_5 P2.1 rfl (by omega) (arrL_get _ (by omega)) ?_
  rw [eu]
  refine V_istore d_fe_go_6 (by decide) rfl rfl ?_
  dsimp only [List.set]
  refine V_aload_n d_fe_go_8 rfl rfl ?_
  refine V_getf d_fe_go_9 fl_fe_384 P1.1 rfl ?_
  refine V_iload_n d_fe_go_12 rfl rfl ?_
  refine V_iald i d_fe_go_13 P3.1 rfl (by omega) (arrL_get _ (by omega)) ?_
  rw [ew]
  refine V_istore d_fe_go_14 (by decide) rfl rfl ?_
  dsimp only [List.set]
  refine V_iload d_fe_go_16 rfl ?_
  refine V_if_ne d_fe_go_18 (fun c18 => ?_) (fun c18 => ?_)
  · skip
    refine V_iload d_fe_go_54 rfl ?_
    refine V_iconst (v := 4) d_fe_go_56 (by decide) ?_
    refine V_icmp_ne d_fe_go_57 (fun c57 => ?_) (fun c57 => ?_)
    · skip
      have k13 : k = 1 ∨ k = 2 ∨ k = 3 := by rcases kc with z | z | z | z | z; exact absurd z c18; exact Or.inl z; exact Or.inr (Or.inl z); exact Or.inr (Or.inr z); exact absurd z c57
      have kpos : 0 < k ∧ k < 4 := by rcases k13 with z | z | z <;> rw [z] <;> decide
      refine V_aload_n d_fe_go_94 rfl rfl ?_
      refine V_iload_n d_fe_go_95 rfl rfl ?_
      refine V_iload d_fe_go_96 rfl ?_
      refine V_callV (N := fe_fieldOf) d_fe_go_98 ml_fe_152 mdf_fe_fieldOf wi_fe_fieldOf wz_fe_fieldOf (sp_fe_fieldOf G R ivs ivo (nI o) fv) (by first | assumption | exact X.1 | exact hu_self _ _ _ | (simp (disch := first | assumption | (apply Ne.symm; assumption)) only [hu_self, hu_ne]; assumption)) ⟨_, rfl, rfl⟩ rfl rfl (by decide) (by decide) (Nat.le_of_ble_eq_true rfl) rfl rfl (kQ fun r98 h98 ⟨e98, z98⟩ => ?_)
      subst e98
      rcases z98 with ⟨no, rfl⟩ | ⟨o', f, c, ho', eo, hf, rfl, im, rfl⟩
      · skip
        refine V_astoreN d_fe_go_101 (by decide) rfl rfl ?_
        dsimp only [List.set]
        refine V_aloadN d_fe_go_103 rfl ?_
        refine V_ifnullN d_fe_go_105 ?_
        refine V_return d_fe_go_138 rfl ?_
        have hf1 : fv = -1 := hfv.resolve_right (fun ⟨f, a, e⟩ => no ⟨o, f, ho, rfl, a, e⟩)
        rw [hq (stW_nil (fun z => c18 z.1) (fun z => c57 z.1) (fun z => z.2.2 hf1))]
        exact ⟨rfl, hS, Fr3.rf _ _ _ _⟩
      · skip
        refine V_astore d_fe_go_101 (by decide) rfl rfl ?_
        dsimp only [List.set]
        refine V_aload d_fe_go_103 rfl ?_
        refine V_ifnull d_fe_go_105 ?_
        obtain rfl := nI_inj8 (by omega) (by omega) eo
        have eS : stW s k n (b01 (i + 1 = sp s p)) (nI o, nI f) = lstW s o f k n := by rw [stW_lst (fun z => c18 z.1) (fun z => c57 z.1) ⟨kpos.1, kpos.2, nI_m1 (by omega)⟩, cl o (by omega), cl f (by omega)]
        rw [eS] at hl ⊢
        refine V_aload d_fe_go_108 rfl ?_
        refine V_getf d_fe_go_110 fl_fe_109 im.1 rfl ?_
        refine V_iconst (v := 2) d_fe_go_113 (by decide) ?_
        refine V_icmp_ne d_fe_go_114 (fun c114 => ?_) (fun c114 => ?_)
        · skip
          refine V_return d_fe_go_138 rfl ?_
          have e : lstW s o f k n = [] := if_neg c114
          rw [hq e]
          exact ⟨rfl, hS, Fr3.rf _ _ _ _⟩
        · skip
          obtain ⟨len, q1, q2, q3, q4, q5, q6⟩ := row2 ivv ho hf c114
          obtain ⟨ar, y1, y2⟩ := w3 f hf
          rw [q4, q5] at y2
          have eL : lstW s o f k n = lsP (fun i => s.2 11 (6 * (8 * o + f) + i)) len (lsN k n len).1 (lsN k n len).2 := by unfold lstW; rw [if_pos c114, q2, cl len (by omega)]
          rw [eL] at hl ⊢
          obtain ⟨_, _, Cl1, ⟨uu, Cl2⟩, vv, Cl3⟩ := R.so hm hb hS (Fr3.rf _ _ _ _)
          refine V_aload_n d_fe_go_117 rfl rfl ?_
          refine V_getf d_fe_go_118 fl_fe_17 (by first | assumption | exact X.1 | exact hu_self _ _ _ | (simp (disch := first | assumption | (apply Ne.symm; assumption)) only [hu_self, hu_ne]; assumption)) rfl ?_
          refine V_iload_n d_fe_go_121 rfl rfl ?_
          refine V_aald o d_fe_go_122 t2.1 (by decide) (by decide) rfl (by omega) u1 ?_
          refine V_getf d_fe_go_123 fl_fe_140 u2.1 rfl ?_
          refine V_iload d_fe_go_126 rfl ?_
          refine V_aald f d_fe_go_128 w2.1 (by decide) (by decide) rfl (by omega) y1 ?_
          refine V_iload d_fe_go_129 rfl ?_
          refine V_iload d_fe_go_131 rfl ?_
          refine V_aload d_fe_go_133 rfl ?_
          refine V_callS (N := fe_goIntoList) d_fe_go_135 ml_fe_413 mdf_fe_goIntoList ws_fe_goIntoList (sp_fe_goIntoList G y2.1 (Cl.neI y2 Cl2 (by omega)) (Cl.neI y2 Cl3 (by omega)) q1 hS (by rcases k13 with z | z | z; exact Or.inl ⟨z, hok.2.2.1 z⟩; exact Or.inr (Or.inl z); exact Or.inr (Or.inr z)) hl) rfl rfl (by decide) (by decide) (Nat.le_of_ble_eq_true rfl) rfl rfl (kN fun h135 p135 => ?_)
          refine V_return d_fe_go_138 rfl ?_
          exact ⟨rfl, p135⟩
    · skip
      refine V_iload d_fe_go_60 rfl ?_
      refine V_iconst (v := -1) d_fe_go_62 (by decide) ?_
      refine V_icmp_ne d_fe_go_63 (fun c63 => ?_) (fun c63 => ?_)
      · skip
        refine V_return d_fe_go_138 rfl ?_
        rw [hq (stW_nil (fun z => c18 z.1) (fun z => c63 z.2.1) (fun z => by rw [c57] at z; exact absurd z.2.1 (by decide)))]
        exact ⟨rfl, hS, Fr3.rf _ _ _ _⟩
      · skip
        obtain ⟨m, hm4, en4⟩ := (isSh_iff ivs n).mp (hok.2.2.2 c57)
        refine V_aload_n d_fe_go_66 rfl rfl ?_
        refine V_aload_n d_fe_go_67 rfl rfl ?_
        refine V_getf d_fe_go_68 fl_fe_17 (by first | assumption | exact X.1 | exact hu_self _ _ _ | (simp (disch := first | assumption | (apply Ne.symm; assumption)) only [hu_self, hu_ne]; assumption)) rfl ?_
        refine V_iload_n d_fe_go_71 rfl rfl ?_
        refine V_aald o d_fe_go_72 t2.1 (by decide) (by decide) rfl (by omega) u1 ?_
        refine V_getf d_fe_go_73 fl_fe_163 u2.1 rfl ?_
        refine V_iload d_fe_go_76 rfl ?_
        refine V_callV (N := fe_isOf) d_fe_go_78 ml_fe_232 mdf_fe_isOf wi_fe_isOf wz_fe_isOf (sp_fe_isOf G X R.2.1 ivs _ n (by rw [en4]; exact nI_m1 (by omega)) (Or.inr ⟨_, hs, es⟩)) (by first | assumption | exact X.1 | exact hu_self _ _ _ | (simp (disch := first | assumption | (apply Ne.symm; assumption)) only [hu_self, hu_ne]; assumption)) ⟨_, rfl, rfl⟩ rfl rfl (by decide) (by decide) (Nat.le_of_ble_eq_true rfl) rfl rfl (kI fun r78 h78 ⟨e78, f78⟩ => ?_)
        subst e78 f78
        refine V_if_eq d_fe_go_81 (fun c81 => ?_) (fun c81 => ?_)
        · skip
          refine V_return d_fe_go_138 rfl ?_
          rw [hq (stW_nil (fun z => c18 z.1) (fun z => b01_e c81 (by have := z.2.2; rw [cl o (by omega)] at this; exact this)) (fun z => by rw [c57] at z; exact absurd z.2.1 (by decide)))]
          exact ⟨rfl, hS, Fr3.rf _ _ _ _⟩
        · skip
          have eS : stW s k n (b01 (i + 1 = sp s p)) (nI o, fv) = [(nI o, -1)] := by rw [stW, if_neg (fun z => c18 z.1), if_pos ⟨c57, c63, by rw [cl o (by omega)]; exact b01_ne c81⟩]
          rw [eS] at hl ⊢
          refine V_aload d_fe_go_84 rfl ?_
          refine V_iload_n d_fe_go_86 rfl rfl ?_
          refine V_iconst (v := -1) d_fe_go_87 (by decide) ?_
          refine V_callV (N := so_add) d_fe_go_88 ml_fe_403 mdf_so_add wi_so_add wz_so_add (sp_so_add G hS (by rw [List.length_append] at hl; exact hl) (nI o) (-1)) hSa ⟨_, rfl, rfl⟩ rfl rfl (by decide) (by decide) (Nat.le_of_ble_eq_true rfl) rfl rfl (kN fun h88 p88 => ?_)
          refine V_goto d_fe_go_91 ?_
          refine V_return d_fe_go_138 rfl ?_
          exact ⟨rfl, p88⟩
  · skip
    refine V_iload d_fe_go_21 rfl ?_
    refine V_iconst (v := -1) d_fe_go_23 (by decide) ?_
    refine V_icmp_ne d_fe_go_24 (fun c24 => ?_) (fun c24 => ?_)
    · skip
      refine V_return d_fe_go_138 rfl ?_
      rw [hq (stW_nil (fun z => c24 z.2) (fun z => c24 z.2.1) (fun z => by rw [c18] at z; exact absurd z.1 (by decide)))]
      exact ⟨rfl, hS, Fr3.rf _ _ _ _⟩
    · skip
      have eS : stW s k n (b01 (i + 1 = sp s p)) (nI o, fv) = fldW s o n (b01 (i + 1 = sp s p)) := by rw [stW, if_pos ⟨c18, c24⟩, cl o (by omega)]
      rw [eS] at hl ⊢
      refine V_aload_n d_fe_go_27 rfl rfl ?_
      refine V_iload_n d_fe_go_28 rfl rfl ?_
      refine V_iload d_fe_go_29 rfl ?_
      refine V_iload_n d_fe_go_31 rfl rfl ?_
      refine V_aload_n d_fe_go_32 rfl rfl ?_
      refine V_getf d_fe_go_33 fl_fe_378 P1.1 rfl ?_
      refine V_iconst (v := 1) d_fe_go_36 (by decide) ?_
      refine V_isub d_fe_go_37 ?_
      rw [ixm (by omega)]
      refine V_icmp_ne d_fe_go_38 (fun c38 => ?_) (fun c38 => ?_)
      · skip
        refine V_iconst (v := 0) d_fe_go_45 (by decide) ?_
        refine V_aload d_fe_go_46 rfl ?_
        have e0 : b01 (i + 1 = sp s p) = 0 := b01_f (fun z => c38 (by rw [← z]; rfl))
        rw [e0] at hl ⊢
        refine V_callV (N := fe_goToField) d_fe_go_48 ml_fe_409 mdf_fe_goToField wi_fe_goToField wz_fe_goToField (sp_fe_goToField G R ivs ivo ho n 0 hS hl) (by first | assumption | exact X.1 | exact hu_self _ _ _ | (simp (disch := first | assumption | (apply Ne.symm; assumption)) only [hu_self, hu_ne]; assumption)) ⟨_, rfl, rfl⟩ rfl rfl (by decide) (by decide) (Nat.le_of_ble_eq_true rfl) rfl rfl (kN fun h48 p48 => ?_)
        refine V_goto d_fe_go_51 ?_
        refine V_return d_fe_go_138 rfl ?_
        exact ⟨rfl, p48⟩
      · skip
        refine V_iconst (v := 1) d_fe_go_41 (by decide) ?_
        refine V_goto d_fe_go_42 ?_
        refine V_aload d_fe_go_46 rfl ?_
        have e1 : b01 (i + 1 = sp s p) = 1 := b01_t (by have := nI_inj8 (by omega) (by omega) c38; omega)
        rw [e1] at hl ⊢
        refine V_callV (N := fe_goToField) d_fe_go_48 ml_fe_409 mdf_fe_goToField wi_fe_goToField wz_fe_goToField (sp_fe_goToField G R ivs ivo ho n 1 hS hl) (by first | assumption | exact X.1 | exact hu_self _ _ _ | (simp (disch := first | assumption | (apply Ne.symm; assumption)) only [hu_self, hu_ne]; assumption)) ⟨_, rfl, rfl⟩ rfl rfl (by decide) (by decide) (Nat.le_of_ble_eq_true rfl) rfl rfl (kN fun h48 p48 => ?_)
        refine V_goto d_fe_go_51 ?_
        refine V_return d_fe_go_138 rfl ?_
        exact ⟨rfl, p48⟩
theorem lp_cw2 (G : Gk) {g : Gm} {h0 : Hp} {s : Mem} (R : RB g h0 s) (hm : Sm s) (ivs : IvS s) (ivo : IvO s) (ivv : IvV s) (ivp : IvP s) {p i a b : Nat} {Lf : List Spt} {v2 : Int32} (hp : p < nP s) (hi : i < sp s p) (ha : a < 2) (hb : b < 2) (hab : a ≠ b) (hSf : SoR h0 (g.2 (16 + a)) (g.2 (18 + a)) (g.2 (20 + a)) Lf) (hlf : Lf.length ≤ 36) (hok : ∀ x, x ∈ Lf → SpOK s x) (hl : (Lf.flatMap (stW s (s.2 35 (5 * p + i)) (s.2 36 (5 * p + i)) (b01 (i + 1 = sp s p)))).length ≤ 36) (post : Option Value → Hp → Prop)
    (K : ∀ (h : Hp) (l6 : Option Value), SoR h (g.2 (16 + b)) (g.2 (18 + b)) (g.2 (20 + b)) (Lf.flatMap (stW s (s.2 35 (5 * p + i)) (s.2 36 (5 * p + i)) (b01 (i + 1 = sp s p)))) → Fr3 h0 (g.2 (16 + b)) (g.2 (18 + b)) (g.2 (20 + b)) h → V G fe_walk post h 0 0 81 [some (.ref (g.2 2)), some (.ref (g.2 (400 + p))), some (.int v2), some (.ref (g.2 (16 + a))), some (.ref (g.2 (16 + b))), some (.int (nI i)), l6] []) :
    ∀ (c m : Nat) (h : Hp), m + c = Lf.length → SoR h (g.2 (16 + b)) (g.2 (18 + b)) (g.2 (20 + b)) ((Lf.take m).flatMap (stW s (s.2 35 (5 * p + i)) (s.2 36 (5 * p + i)) (b01 (i + 1 = sp s p)))) → Fr3 h0 (g.2 (16 + b)) (g.2 (18 + b)) (g.2 (20 + b)) h →
    V G fe_walk post h 0 0 43 [some (.ref (g.2 2)), some (.ref (g.2 (400 + p))), some (.int v2), some (.ref (g.2 (16 + a))), some (.ref (g.2 (16 + b))), some (.int (nI i)), some (.int (nI m))] [] := by
  intro c
  induction c with
  | zero =>
    intro m h hmc hS hF
    obtain rfl : m = Lf.length := by omega
    obtain ⟨R1, S1, _⟩ := R.so hm hb hS hF
    obtain ⟨_, _, Ca, _, _⟩ := R.so hm ha hSf (Fr3.rf _ _ _ _)
    have Ca1 := Ca.st S1 ⟨by omega, by omega, by omega⟩
    rw [List.take_length] at hS
    refine V_iload d_fe_walk_43 rfl ?_
    refine V_aload_n d_fe_walk_45 rfl rfl ?_
    refine V_getf d_fe_walk_46 fl_fe_394 Ca1.1 rfl ?_
    refine V_icmp_ge d_fe_walk_49 (fun c49 => ?_) (fun c49 => ?_)
    · skip
      exact K h _ hS hF
    · skip
      exact absurd (ltN c49 (by omega)) (by omega)
  | succ c ih =>
    intro m h hmc hS hF
    obtain ⟨R1, S1, _⟩ := R.so hm hb hS hF
    have X := R1.1
    obtain ⟨f1, f2, s1, s2, s3, s4, s5⟩ := hSf
    obtain ⟨_, _, Ca, ⟨cu, Cb⟩, cv, Cc⟩ := R.so hm ha ⟨f1, f2, s1, s2, s3, s4, s5⟩ (Fr3.rf _ _ _ _)
    have Ca1 := Ca.st S1 ⟨by omega, by omega, by omega⟩
    have Cb1 := Cb.st S1 ⟨by omega, by omega, by omega⟩
    have Cc1 := Cc.st S1 ⟨by omega, by omega, by omega⟩
    have eb : arrL 36 cu = arrL 36 f1 := by have := Cb.1; rw [s2] at this; injection this with this; injection this with _ this; exact this.symm
    have ec : arrL 36 cv = arrL 36 f2 := by have := Cc.1; rw [s3] at this; injection this with this; injection this with _ this; exact this.symm
    rw [eb] at Cb1
    rw [ec] at Cc1
    obtain ⟨x, hx⟩ : ∃ x, Lf[m]? = some x := ⟨_, List.getElem?_eq_getElem (by omega)⟩
    obtain ⟨x1, x2⟩ := s5 m x hx
    obtain ⟨o, ho, ex, hfx⟩ := hok x (List.mem_of_getElem? hx)
    have eT : (Lf.take (m + 1)).flatMap (stW s (s.2 35 (5 * p + i)) (s.2 36 (5 * p + i)) (b01 (i + 1 = sp s p))) = (Lf.take m).flatMap (stW s (s.2 35 (5 * p + i)) (s.2 36 (5 * p + i)) (b01 (i + 1 = sp s p))) ++ stW s (s.2 35 (5 * p + i)) (s.2 36 (5 * p + i)) (b01 (i + 1 = sp s p)) (nI o, x.2) := by
      rw [List.take_succ, hx, List.flatMap_append]
      simp only [Option.toList, List.flatMap_cons, List.flatMap_nil, List.append_nil]
      rw [← ex]
    have hle : ((Lf.take (m + 1)).flatMap (stW s (s.2 35 (5 * p + i)) (s.2 36 (5 * p + i)) (b01 (i + 1 = sp s p)))).length ≤ 36 := by
      have e2 : Lf.flatMap (stW s (s.2 35 (5 * p + i)) (s.2 36 (5 * p + i)) (b01 (i + 1 = sp s p))) = (Lf.take (m + 1)).flatMap (stW s (s.2 35 (5 * p + i)) (s.2 36 (5 * p + i)) (b01 (i + 1 = sp s p))) ++ (Lf.drop (m + 1)).flatMap (stW s (s.2 35 (5 * p + i)) (s.2 36 (5 * p + i)) (b01 (i + 1 = sp s p))) := by
        rw [← List.flatMap_append, List.take_append_drop]
      rw [e2, List.length_append] at hl
      omega
    rw [eT] at hle
    refine V_iload d_fe_walk_43 rfl ?_
    refine V_aload_n d_fe_walk_45 rfl rfl ?_
    refine V_getf d_fe_walk_46 fl_fe_394 Ca1.1 rfl ?_
    refine V_icmp_ge d_fe_walk_49 (fun c49 => ?_) (fun c49 => ?_)
    · skip
      exact absurd (geN c49 (by omega)) (by omega)
    · skip
      refine V_aload_n d_fe_walk_52 rfl rfl ?_
      refine V_aload_n d_fe_walk_53 rfl rfl ?_
      refine V_iload d_fe_walk_54 rfl ?_
      refine V_aload_n d_fe_walk_56 rfl rfl ?_
      refine V_getf d_fe_walk_57 fl_fe_395 Ca1.1 rfl ?_
      refine V_iload d_fe_walk_60 rfl ?_
      refine V_iald m d_fe_walk_62 Cb1.1 rfl (by omega) (arrL_get _ (by omega)) ?_
      rw [x1, ex]
      refine V_aload_n d_fe_walk_63 rfl rfl ?_
      refine V_getf d_fe_walk_64 fl_fe_398 Ca1.1 rfl ?_
      refine V_iload d_fe_walk_67 rfl ?_
      refine V_iald m d_fe_walk_69 Cc1.1 rfl (by omega) (arrL_get _ (by omega)) ?_
      rw [x2]
      refine V_aload d_fe_walk_70 rfl ?_
      refine V_callV (N := fe_go) d_fe_walk_72 ml_fe_405 mdf_fe_go wi_fe_go wz_fe_go (sp_fe_go G R1 hm ivs ivo ivv ivp hp hi hb ho hfx hS hle) (by first | assumption | exact X.1 | exact hu_self _ _ _ | (simp (disch := first | assumption | (apply Ne.symm; assumption)) only [hu_self, hu_ne]; assumption)) ⟨_, rfl, rfl⟩ rfl rfl (by decide) (by decide) (Nat.le_of_ble_eq_true rfl) rfl rfl (kN fun h72 ⟨p72, f72⟩ => ?_)
      refine V_iinc (v := _) d_fe_walk_75 rfl rfl (by decide) rfl rfl ?_
      dsimp only [List.set]
      refine V_goto d_fe_walk_78 ?_
      rw [show Int32.ofInt 1 = 1 from rfl, nI_1]
      exact ih (m + 1) h72 (by omega) (by rw [eT]; exact p72) (hF.tr f72)
theorem SoR.mv {g : Gm} {h h' : Hp} {a : Nat} {L : List Spt} {D : Nat → Prop} (H : SoR h (g.2 (16 + a)) (g.2 (18 + a)) (g.2 (20 + a)) L) (h1 : g.1 (g.2 (16 + a)) = 16 + a) (h2 : g.1 (g.2 (18 + a)) = 18 + a) (h3 : g.1 (g.2 (20 + a)) = 20 + a) (S : Stq g h D g h') (d1 : D (16 + a)) (d2 : D (18 + a)) (d3 : D (20 + a)) : SoR h' (g.2 (16 + a)) (g.2 (18 + a)) (g.2 (20 + a)) L := by
  obtain ⟨f1, f2, s1, s2, s3, s4, s5⟩ := H
  exact ⟨f1, f2, (Cl.st ⟨s1, h1⟩ S d1).1, (Cl.st ⟨s2, h2⟩ S d2).1, (Cl.st ⟨s3, h3⟩ S d3).1, s4, s5⟩
theorem lp_cw1 (G : Gk) {g : Gm} {h0 : Hp} {s : Mem} (hm : Sm s) (ivs : IvS s) (ivo : IvO s) (ivv : IvV s) (ivp : IvP s) {p o : Nat} (hp : p < nP s) (ho : o < nO s) : ∀ (c i a b : Nat) (h : Hp) (l6 : Option Value), i + c = sp s p → a < 2 → b < 2 → a ≠ b → RB g h s → SoR h (g.2 (16 + a)) (g.2 (18 + a)) (g.2 (20 + a)) (wlkL s p o i) → Stq g h0 nSc g h →
    V G fe_walk (pR fun r h' => ∃ a, a < 2 ∧ r = g.2 (16 + a) ∧ SoR h' (g.2 (16 + a)) (g.2 (18 + a)) (g.2 (20 + a)) (wlkL s p o (sp s p)) ∧ RB g h' s ∧ Stq g h0 nSc g h') h 0 0 25 [some (.ref (g.2 2)), some (.ref (g.2 (400 + p))), some (.int (nI o)), some (.ref (g.2 (16 + a))), some (.ref (g.2 (16 + b))), some (.int (nI i)), l6] [] := by
  intro c
  induction c with
  | zero =>
    intro i a b h l6 hi ha hb hab R hS S
    obtain rfl : i = sp s p := by omega
    obtain ⟨Lp, l1, l2, l3⟩ := R.2.2.2.1
    obtain ⟨esp, h5, hst⟩ := ivp.2.2 p hp
    obtain ⟨P1, _⟩ := (l3 p hp).2
    rw [esp] at P1
    refine V_iload d_fe_walk_25 rfl ?_
    refine V_aload_n d_fe_walk_27 rfl rfl ?_
    refine V_getf d_fe_walk_28 fl_fe_378 P1.1 rfl ?_
    refine V_icmp_ge d_fe_walk_31 (fun c31 => ?_) (fun c31 => ?_)
    · skip
      refine V_aload_n d_fe_walk_97 rfl rfl ?_
      refine V_areturn d_fe_walk_98 rfl (by first | exact Or.inl ⟨_, rfl⟩ | exact Or.inr ⟨_, rfl⟩) (by first | exact Or.inl rfl | exact Or.inr ⟨_, rfl⟩) ?_
      exact ⟨_, rfl, a, ha, rfl, hS, R, S⟩
    · skip
      exact absurd (ltN c31 (by omega)) (by omega)
  | succ c ih =>
    intro i a b h l6 hi ha hb hab R hS S
    obtain ⟨Lp, l1, l2, l3⟩ := R.2.2.2.1
    obtain ⟨esp, h5, hst⟩ := ivp.2.2 p hp
    obtain ⟨P1, _⟩ := (l3 p hp).2
    rw [esp] at P1
    have Zb : ZS g h b := by rcases (show b = 0 ∨ b = 1 by omega) with rfl | rfl; exact R.2.2.2.2.2.2.2.2.1; exact R.2.2.2.2.2.2.2.2.2
    obtain ⟨nb, ub, vb, B1, B2, B3⟩ := Zb
    obtain ⟨_, _, Ca, ⟨cu, Cb⟩, cv, Cc⟩ := R.so hm ha hS (Fr3.rf _ _ _ _)
    have hS1 : SoR (hu h (g.2 (16 + b)) (9, [.ref (g.2 (18 + b)), .ref (g.2 (20 + b)), .int 0])) (g.2 (16 + b)) (g.2 (18 + b)) (g.2 (20 + b)) [] := ⟨ub, vb, hu_self _ _ _, by rw [hu_ne _ _ (B2.ne B1 (by omega))]; exact B2.1, by rw [hu_ne _ _ (B3.ne B1 (by omega))]; exact B3.1, B2.ne B3 (by omega), fun k x hx => by simp at hx⟩
    have hF1 : Fr3 h (g.2 (16 + b)) (g.2 (18 + b)) (g.2 (20 + b)) (hu h (g.2 (16 + b)) (9, [.ref (g.2 (18 + b)), .ref (g.2 (20 + b)), .int 0])) := fun z z1 _ _ => hu_ne _ _ z1
    obtain ⟨R1, S1, _⟩ := R.so hm hb hS1 hF1
    have hSa := SoR.mv hS Ca.2 Cb.2 Cc.2 S1 ⟨by omega, by omega, by omega⟩ ⟨by omega, by omega, by omega⟩ ⟨by omega, by omega, by omega⟩
    refine V_iload d_fe_walk_25 rfl ?_
    refine V_aload_n d_fe_walk_27 rfl rfl ?_
    refine V_getf d_fe_walk_28 fl_fe_378 P1.1 rfl ?_
    refine V_icmp_ge d_fe_walk_31 (fun c31 => ?_) (fun c31 => ?_)
    · skip
      exact absurd (geN c31 (by omega)) (by omega)
    · skip
      refine V_aload d_fe_walk_34 rfl ?_
      refine V_iconst (v := 0) d_fe_walk_36 (by decide) ?_
      refine V_putf d_fe_walk_37 fp_fe_394 rfl rfl B1.1 ?_
      refine V_iconst (v := 0) d_fe_walk_40 (by decide) ?_
      refine V_istore d_fe_walk_41 (by decide) rfl rfl ?_
      dsimp only [List.set]
      refine lp_cw2 G R1 hm ivs ivo ivv ivp hp (by omega) ha hb hab hSa (wlkL_36 ivs ivo ivv ho i (by omega)) (fun x hx => wlkL_ok ivs ivo ivv ho i x hx) (wlkL_36 ivs ivo ivv ho (i + 1) (by omega)) _ (fun h2 l6' hS2 hF2 => ?_) (wlkL s p o i).length 0 _ (by omega) (by rw [List.take_zero]; exact hS1) (Fr3.rf _ _ _ _)
      obtain ⟨R2, S2, _⟩ := R1.so hm hb hS2 hF2
      refine V_aload_n d_fe_walk_81 rfl rfl ?_
      refine V_astore d_fe_walk_82 (by decide) rfl rfl ?_
      dsimp only [List.set]
      refine V_aload d_fe_walk_84 rfl ?_
      refine V_astore_n d_fe_walk_86 rfl (by decide) rfl rfl ?_
      dsimp only [List.set]
      refine V_aload d_fe_walk_87 rfl ?_
      refine V_astore d_fe_walk_89 (by decide) rfl rfl ?_
      dsimp only [List.set]
      refine V_iinc d_fe_walk_91 rfl rfl (by decide) rfl rfl ?_
      dsimp only [List.set]
      refine V_goto d_fe_walk_94 ?_
      rw [show Int32.ofInt 1 = 1 from rfl, nI_1]
      exact ih (i + 1) b a h2 _ (by omega) hb ha (Ne.symm hab) R2 hS2 ((S.tr (S1.mo (fun r hr => by unfold nSc at hr; omega))).tr (S2.mo (fun r hr => by unfold nSc at hr; omega)))
theorem sp_fe_walk (G : Gk) {g : Gm} {h : Hp} {s : Mem} (R : RB g h s) (hm : Sm s) (ivs : IvS s) (ivo : IvO s) (ivv : IvV s) (ivp : IvP s) {p o : Nat} (hp : p < nP s) (ho : o < nO s) : Ct G fe_walk [.ref (g.2 2), .ref (g.2 (400 + p)), .int (nI o)] h (pR fun r h' => ∃ a, a < 2 ∧ r = g.2 (16 + a) ∧ SoR h' (g.2 (16 + a)) (g.2 (18 + a)) (g.2 (20 + a)) (wlkL s p o (sp s p)) ∧ RB g h' s ∧ Stq g h nSc g h') := by
  have X := R.1
  obtain ⟨nb, ub, vb, B1, B2, B3⟩ := R.2.2.2.2.2.2.2.2.1
  have hS1 : SoR (hu h (g.2 (16 + 0)) (9, [.ref (g.2 (18 + 0)), .ref (g.2 (20 + 0)), .int 0])) (g.2 (16 + 0)) (g.2 (18 + 0)) (g.2 (20 + 0)) [] := ⟨ub, vb, hu_self _ _ _, by rw [hu_ne _ _ (B2.ne B1 (by omega))]; exact B2.1, by rw [hu_ne _ _ (B3.ne B1 (by omega))]; exact B3.1, B2.ne B3 (by omega), fun k x hx => by simp at hx⟩
  have hF1 : Fr3 h (g.2 (16 + 0)) (g.2 (18 + 0)) (g.2 (20 + 0)) (hu h (g.2 (16 + 0)) (9, [.ref (g.2 (18 + 0)), .ref (g.2 (20 + 0)), .int 0])) := fun z z1 _ _ => hu_ne _ _ z1
  refine Ct.ofL (M := fe_walk) (lv := [some (.ref (g.2 2)), some (.ref (g.2 (400 + p))), some (.int (nI o)), none, none, none, none]) mdf_fe_walk rfl (Nat.le_of_ble_eq_true rfl) rfl ?_
  refine V_aload_n d_fe_walk_0 rfl rfl ?_
  refine V_getf d_fe_walk_1 fl_fe_57 (by first | assumption | exact X.1 | exact hu_self _ _ _ | (simp (disch := first | assumption | (apply Ne.symm; assumption)) only [hu_self, hu_ne]; assumption)) rfl ?_
  refine V_astore_n d_fe_walk_4 rfl (by decide) rfl rfl ?_
  dsimp only [List.set]
  refine V_aload_n d_fe_walk_5 rfl rfl ?_
  refine V_getf d_fe_walk_6 fl_fe_61 (by first | assumption | exact X.1 | exact hu_self _ _ _ | (simp (disch := first | assumption | (apply Ne.symm; assumption)) only [hu_self, hu_ne]; assumption)) rfl ?_
  refine V_astore d_fe_walk_9 (by decide) rfl rfl ?_
  dsimp only [List.set]
  refine V_aload_n d_fe_walk_11 rfl rfl ?_
  refine V_iconst (v := 0) d_fe_walk_12 (by decide) ?_
  refine V_putf d_fe_walk_13 fp_fe_394 rfl rfl B1.1 ?_
  refine V_aload_n d_fe_walk_16 rfl rfl ?_
  refine V_iload_n d_fe_walk_17 rfl rfl ?_
  refine V_iconst (v := -1) d_fe_walk_18 (by decide) ?_
  refine V_callV (N := so_add) d_fe_walk_19 ml_fe_403 mdf_so_add wi_so_add wz_so_add (sp_so_add G hS1 (by decide) (nI o) (-1)) (hu_self _ _ _) ⟨_, rfl, rfl⟩ rfl rfl (by decide) (by decide) (Nat.le_of_ble_eq_true rfl) rfl rfl (kN fun h19 ⟨p19, f19⟩ => ?_)
  refine V_iconst (v := 0) d_fe_walk_22 (by decide) ?_
  refine V_istore d_fe_walk_23 (by decide) rfl rfl ?_
  dsimp only [List.set]
  obtain ⟨R1, S1, _⟩ := R.so hm (by omega) p19 (hF1.tr f19)
  exact lp_cw1 G hm ivs ivo ivv ivp hp ho (sp s p) 0 0 1 h19 none (by omega) (by omega) (by omega) (by omega) R1 p19 (S1.mo (fun r hr => by unfold nSc at hr; omega))
def R_mts (s : Mem) (v w r : Int32) : Prop := cs (iP s v ∧ iO s w) (r = nI (wlkL s v.toNatClampNeg w.toNatClampNeg (sp s v.toNatClampNeg)).length) (r = -2)
def R_mch (s : Mem) (v w i x r : Int32) : Prop := cs (iP s v ∧ iO s w ∧ 0 ≤ x ∧ x ≤ 1) (r = mchM (wlkL s v.toNatClampNeg w.toNatClampNeg (sp s v.toNatClampNeg)) i x) (r = -2)
theorem sp_fe_matches (G : Gk) {g : Gm} {h : Hp} {s : Mem} (R : RB g h s) (hm : Sm s) (ivs : IvS s) (ivo : IvO s) (ivv : IvV s) (ivp : IvP s) (v w : Int32) : Ct G fe_matches [.ref (g.2 2), .int v, .int w] h (pI fun r h' => R_mts s v w r ∧ RB g h' s ∧ Stq g h nSc g h') := by
  have X := R.1
  have n60 := ivo.2.1
  have n16 := ivp.2.1
  obtain ⟨Lp, l1, l2, l3⟩ := R.2.2.2.1
  refine Ct.ofL (M := fe_matches) (lv := [some (.ref (g.2 2)), some (.int v), some (.int w)]) mdf_fe_matches rfl (Nat.le_of_ble_eq_true rfl) rfl ?_
  refine V_aload_n d_fe_matches_0 rfl rfl ?_
  refine V_iload_n d_fe_matches_1 rfl rfl ?_
  refine V_callV (N := fe_isPath) d_fe_matches_2 ml_fe_372 mdf_fe_isPath wi_fe_isPath wz_fe_isPath (sp_fe_isPath G X ivp v) (by first | assumption | exact X.1 | exact hu_self _ _ _ | (simp (disch := first | assumption | (apply Ne.symm; assumption)) only [hu_self, hu_ne]; assumption)) ⟨_, rfl, rfl⟩ rfl rfl (by decide) (by decide) (Nat.le_of_ble_eq_true rfl) rfl rfl (kI fun r2 h2 ⟨e2, f2⟩ => ?_)
  subst e2 f2
  refine V_if_eq d_fe_matches_5 (fun c5 => ?_) (fun c5 => ?_)
  · skip
    refine V_bipush (v := -2) d_fe_matches_16 (by decide) ?_
    refine V_ireturn d_fe_matches_18 rfl ?_
    exact ⟨_, rfl, cs.mf (fun q => b01_e c5 q.1) rfl, R, Stq.rf _ _ _⟩
  · skip
    refine V_aload_n d_fe_matches_8 rfl rfl ?_
    refine V_iload_n d_fe_matches_9 rfl rfl ?_
    refine V_callV (N := fe_isThing) d_fe_matches_10 ml_fe_160 mdf_fe_isThing wi_fe_isThing wz_fe_isThing (sp_fe_isThing G X ivo _) (by first | assumption | exact X.1 | exact hu_self _ _ _ | (simp (disch := first | assumption | (apply Ne.symm; assumption)) only [hu_self, hu_ne]; assumption)) ⟨_, rfl, rfl⟩ rfl rfl (by decide) (by decide) (Nat.le_of_ble_eq_true rfl) rfl rfl (kI fun r10 h10 ⟨e10, f10⟩ => ?_)
    subst e10 f10
    refine V_if_ne d_fe_matches_13 (fun c13 => ?_) (fun c13 => ?_)
    · skip
      obtain ⟨p, hp, rfl⟩ := b01_ne c5
      obtain ⟨o, ho, rfl⟩ := b01_ne c13
      refine V_aload_n d_fe_matches_19 rfl rfl ?_
      refine V_aload_n d_fe_matches_20 rfl rfl ?_
      refine V_getf d_fe_matches_21 fl_fe_23 (by first | assumption | exact X.1 | exact hu_self _ _ _ | (simp (disch := first | assumption | (apply Ne.symm; assumption)) only [hu_self, hu_ne]; assumption)) rfl ?_
      refine V_iload_n d_fe_matches_24 rfl rfl ?_
      refine V_aald p d_fe_matches_25 l2.1 (by decide) (by decide) rfl (by omega) (l3 p hp).1 ?_
      refine V_iload_n d_fe_matches_26 rfl rfl ?_
      refine V_callV (N := fe_walk) d_fe_matches_27 ml_fe_390 mdf_fe_walk wi_fe_walk wz_fe_walk (sp_fe_walk G R hm ivs ivo ivv ivp hp ho) (by first | assumption | exact X.1 | exact hu_self _ _ _ | (simp (disch := first | assumption | (apply Ne.symm; assumption)) only [hu_self, hu_ne]; assumption)) ⟨_, rfl, rfl⟩ rfl rfl (by decide) (by decide) (Nat.le_of_ble_eq_true rfl) rfl rfl (kR fun r27 h27 ⟨a, ha, er, hS, R1, S1⟩ => ?_)
      subst er
      obtain ⟨f1, f2, s1, _⟩ := id hS
      refine V_getf d_fe_matches_30 fl_fe_394 s1 rfl ?_
      refine V_ireturn d_fe_matches_33 rfl ?_
      exact ⟨_, rfl, cs.mt ⟨⟨p, hp, rfl⟩, ⟨o, ho, rfl⟩⟩ (by rw [cl p (by omega), cl o (by omega)]), R1, S1⟩
    · skip
      refine V_bipush (v := -2) d_fe_matches_16 (by decide) ?_
      refine V_ireturn d_fe_matches_18 rfl ?_
      exact ⟨_, rfl, cs.mf (fun q => b01_e c13 q.2) rfl, R, Stq.rf _ _ _⟩
theorem sp_fe_match (G : Gk) {g : Gm} {h : Hp} {s : Mem} (R : RB g h s) (hm : Sm s) (ivs : IvS s) (ivo : IvO s) (ivv : IvV s) (ivp : IvP s) (v w i x : Int32) : Ct G fe_match [.ref (g.2 2), .int v, .int w, .int i, .int x] h (pI fun r h' => R_mch s v w i x r ∧ RB g h' s ∧ Stq g h nSc g h') := by
  have X := R.1
  have n60 := ivo.2.1
  have n16 := ivp.2.1
  obtain ⟨Lp, l1, l2, l3⟩ := R.2.2.2.1
  refine Ct.ofL (M := fe_match) (lv := [some (.ref (g.2 2)), some (.int v), some (.int w), some (.int i), some (.int x), none]) mdf_fe_match rfl (Nat.le_of_ble_eq_true rfl) rfl ?_
  refine V_aload_n d_fe_match_0 rfl rfl ?_
  refine V_iload_n d_fe_match_1 rfl rfl ?_
  refine V_callV (N := fe_isPath) d_fe_match_2 ml_fe_372 mdf_fe_isPath wi_fe_isPath wz_fe_isPath (sp_fe_isPath G X ivp v) (by first | assumption | exact X.1 | exact hu_self _ _ _ | (simp (disch := first | assumption | (apply Ne.symm; assumption)) only [hu_self, hu_ne]; assumption)) ⟨_, rfl, rfl⟩ rfl rfl (by decide) (by decide) (Nat.le_of_ble_eq_true rfl) rfl rfl (kI fun r2 h2 ⟨e2, f2⟩ => ?_)
  subst e2 f2
  refine V_if_eq d_fe_match_5 (fun c5 => ?_) (fun c5 => ?_)
  · skip
    refine V_bipush (v := -2) d_fe_match_27 (by decide) ?_
    refine V_ireturn d_fe_match_29 rfl ?_
    exact ⟨_, rfl, cs.mf (fun q => b01_e c5 q.1) rfl, R, Stq.rf _ _ _⟩
  · skip
    refine V_aload_n d_fe_match_8 rfl rfl ?_
    refine V_iload_n d_fe_match_9 rfl rfl ?_
    refine V_callV (N := fe_isThing) d_fe_match_10 ml_fe_160 mdf_fe_isThing wi_fe_isThing wz_fe_isThing (sp_fe_isThing G X ivo _) (by first | assumption | exact X.1 | exact hu_self _ _ _ | (simp (disch := first | assumption | (apply Ne.symm; assumption)) only [hu_self, hu_ne]; assumption)) ⟨_, rfl, rfl⟩ rfl rfl (by decide) (by decide) (Nat.le_of_ble_eq_true rfl) rfl rfl (kI fun r10 h10 ⟨e10, f10⟩ => ?_)
    subst e10 f10
    refine V_if_eq d_fe_match_13 (fun c13 => ?_) (fun c13 => ?_)
    · skip
      refine V_bipush (v := -2) d_fe_match_27 (by decide) ?_
      refine V_ireturn d_fe_match_29 rfl ?_
      exact ⟨_, rfl, cs.mf (fun q => b01_e c13 q.2.1) rfl, R, Stq.rf _ _ _⟩
    · skip
      refine V_iload d_fe_match_16 rfl ?_
      refine V_if_lt d_fe_match_18 (fun c18 => ?_) (fun c18 => ?_)
      · skip
        refine V_bipush (v := -2) d_fe_match_27 (by decide) ?_
        refine V_ireturn d_fe_match_29 rfl ?_
        exact ⟨_, rfl, cs.mf (fun q => absurd q.2.2.1 (Int32.not_le.mpr c18)) rfl, R, Stq.rf _ _ _⟩
      · skip
        refine V_iload d_fe_match_21 rfl ?_
        refine V_iconst (v := 1) d_fe_match_23 (by decide) ?_
        refine V_icmp_le d_fe_match_24 (fun c24 => ?_) (fun c24 => ?_)
        · skip
          obtain ⟨p, hp, rfl⟩ := b01_ne c5
          obtain ⟨o, ho, rfl⟩ := b01_ne c13
          have hl36 := wlkL_36 ivs ivo ivv (p := p) ho (sp s p) (ivp.2.2 p hp).2.1
          have hc : ∀ r, r = mchM (wlkL s p o (sp s p)) i x → R_mch s (nI p) (nI o) i x r := fun r e => cs.mt ⟨⟨p, hp, rfl⟩, ⟨o, ho, rfl⟩, Int32.not_lt.mp c18, c24⟩ (by rw [cl p (by omega), cl o (by omega)]; exact e)
          have hix : (0 ≤ i ∧ i ≤ nI (wlkL s p o (sp s p)).length - 1) ↔ ∃ j, j < (wlkL s p o (sp s p)).length ∧ i = nI j := ⟨fun q => ix_of rfl (by omega) q, fun ⟨j, a, b⟩ => Classical.byContradiction fun q => ix_no rfl (by omega) q j a b⟩
          refine V_aload_n d_fe_match_30 rfl rfl ?_
          refine V_aload_n d_fe_match_31 rfl rfl ?_
          refine V_getf d_fe_match_32 fl_fe_23 (by first | assumption | exact X.1 | exact hu_self _ _ _ | (simp (disch := first | assumption | (apply Ne.symm; assumption)) only [hu_self, hu_ne]; assumption)) rfl ?_
          refine V_iload_n d_fe_match_35 rfl rfl ?_
          refine V_aald p d_fe_match_36 l2.1 (by decide) (by decide) rfl (by omega) (l3 p hp).1 ?_
          refine V_iload_n d_fe_match_37 rfl rfl ?_
          refine V_callV (N := fe_walk) d_fe_match_38 ml_fe_390 mdf_fe_walk wi_fe_walk wz_fe_walk (sp_fe_walk G R hm ivs ivo ivv ivp hp ho) (by first | assumption | exact X.1 | exact hu_self _ _ _ | (simp (disch := first | assumption | (apply Ne.symm; assumption)) only [hu_self, hu_ne]; assumption)) ⟨_, rfl, rfl⟩ rfl rfl (by decide) (by decide) (Nat.le_of_ble_eq_true rfl) rfl rfl (kR fun r38 h38 ⟨a, ha, er, hS, R1, S1⟩ => ?_)
          subst er
          obtain ⟨f1, f2, s1, s2, s3, s4, s5⟩ := id hS
          refine V_astore d_fe_match_41 (by decide) rfl rfl ?_
          dsimp only [List.set]
          refine V_iload_n d_fe_match_43 rfl rfl ?_
          refine V_if_lt d_fe_match_44 (fun c44 => ?_) (fun c44 => ?_)
          · skip
            refine V_iconst (v := -1) d_fe_match_56 (by decide) ?_
            refine V_ireturn d_fe_match_57 rfl ?_
            exact ⟨_, rfl, hc _ (by rw [mchM, if_neg (fun q => absurd q.1 (Int32.not_le.mpr c44))]), R1, S1⟩
          · skip
            refine V_iload_n d_fe_match_47 rfl rfl ?_
            refine V_aload d_fe_match_48 rfl ?_
            refine V_getf d_fe_match_50 fl_fe_394 s1 rfl ?_
            refine V_icmp_lt d_fe_match_53 (fun c53 => ?_) (fun c53 => ?_)
            · skip
              obtain ⟨j, hj, rfl⟩ := ix_lt c44 (Int32.not_le.mpr c53) (by omega)
              obtain ⟨y, hy⟩ : ∃ y, (wlkL s p o (sp s p))[j]? = some y := ⟨_, List.getElem?_eq_getElem hj⟩
              obtain ⟨y1, y2⟩ := s5 j y hy
              refine V_iload d_fe_match_58 rfl ?_
              refine V_if_ne d_fe_match_60 (fun c60 => ?_) (fun c60 => ?_)
              · skip
                refine V_aload d_fe_match_73 rfl ?_
                refine V_getf d_fe_match_75 fl_fe_398 s1 rfl ?_
                refine V_iload_n d_fe_match_78 rfl rfl ?_
                refine V_iald j d_fe_match_79 s3 rfl (by omega) (arrL_get _ (by omega)) ?_
                refine V_ireturn d_fe_match_80 rfl ?_
                exact ⟨_, rfl, hc _ (by rw [mchM, if_pos (hix.mpr ⟨j, hj, rfl⟩), if_neg c60, cl j (by omega), hy, y2]; rfl), R1, S1⟩
              · skip
                refine V_aload d_fe_match_63 rfl ?_
                refine V_getf d_fe_match_65 fl_fe_395 s1 rfl ?_
                refine V_iload_n d_fe_match_68 rfl rfl ?_
                refine V_iald j d_fe_match_69 s2 rfl (by omega) (arrL_get _ (by omega)) ?_
                refine V_goto d_fe_match_70 ?_
                refine V_ireturn d_fe_match_80 rfl ?_
                exact ⟨_, rfl, hc _ (by rw [mchM, if_pos (hix.mpr ⟨j, hj, rfl⟩), if_pos c60, cl j (by omega), hy, y1]; rfl), R1, S1⟩
            · skip
              refine V_iconst (v := -1) d_fe_match_56 (by decide) ?_
              refine V_ireturn d_fe_match_57 rfl ?_
              refine ⟨_, rfl, hc _ ?_, R1, S1⟩
              rw [mchM, if_neg (fun q => ?_)]
              obtain ⟨j, a1, b1⟩ := hix.mp q
              rw [b1] at c53
              exact c53 (nI_lt a1 (by omega))
        · skip
          refine V_bipush (v := -2) d_fe_match_27 (by decide) ?_
          refine V_ireturn d_fe_match_29 rfl ?_
          exact ⟨_, rfl, cs.mf (fun q => c24 q.2.2.2) rfl, R, Stq.rf _ _ _⟩
