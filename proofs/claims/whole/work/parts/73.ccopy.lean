/-! copyOf -/
theorem PO.stx {g g' : Gm} {h h' : Hp} {D : Nat → Prop} {s : Mem} (H : PO g h s) (hn : nO s ≤ 60) (S : Stq g h D g' h') (h1 : D 1) (h4 : D 4) (hd : ∀ r, 300 ≤ r → r < 300 + nO s → D r) : PO g' h' s := by
  obtain ⟨L, q1, q2, q3⟩ := H
  refine ⟨L, q1, q2.st S h4, fun o ho => ?_⟩
  obtain ⟨t, q4, q5, R, q6⟩ := q3 o ho
  refine ⟨t, q4, ?_, R, q6.st S h1 (hd _ (by omega) (by omega))⟩
  rw [S.2 _ (hd (300 + o) (by omega) (by omega))]
  exact q5.st S h1
theorem lp_ltc (G : Gk) {g : Gm} {h : Hp} {s : Mem} {q n n0 : Nat} {b : Bf} {F : Nat → Int32} (X : PX g h s) (Z : ZR g h b) (hq : h q = none) (n6 : n ≤ 6) (hF : InN 60 n F) : ∀ (c i : Nat) (F' : Nat → Int32) (l4 : Option Value), i + c = n → (∀ j, F' j = if j < i then cpd b.2.2 n0 (F j) else F j) →
    V G fe_leadToCopies (pN fun h' => h' = hu h q (20, arrL n (fun i => cpd b.2.2 n0 (F i)))) (hu h q (20, arrL n F')) 0 0 2 [some (.ref (g.2 2)), some (.ref q), some (.int (nI n0)), some (.int (nI i)), l4] [] := by
  have nX := fne X.1 hq
  have n9 := fne Z.1.1 hq
  have n11 := fne Z.2.2.1 hq
  intro c
  induction c with
  | zero =>
    intro i F' l4 hi hF'
    obtain rfl : i = n := by omega
    refine V_iload_n d_fe_leadToCopies_2 rfl rfl ?_
    refine V_aload_n d_fe_leadToCopies_3 rfl rfl ?_
    refine V_alen d_fe_leadToCopies_4 (hu_self _ _ _) (by decide) (by decide) ?_
    rw [arrL_len]
    refine V_icmp_ge d_fe_leadToCopies_5 (fun c5 => ?_) (fun c5 => ?_)
    · skip
      refine V_return d_fe_leadToCopies_51 rfl ?_
      have e : arrL i F' = arrL i (fun i => cpd b.2.2 n0 (F i)) := arrL_congr (fun j hj => by rw [hF' j, if_pos hj])
      rw [e]
      exact ⟨rfl, rfl⟩
    · skip
      exact absurd (ltN c5 (by omega)) (by omega)
  | succ c ih =>
    intro i F' l4 hi hF'
    have eF : F' i = F i := by rw [hF' i, if_neg (by omega)]
    have step : ∀ x, x = cpd b.2.2 n0 (F i) → ∀ j, upd F' i x j = if j < i + 1 then cpd b.2.2 n0 (F j) else F j := fun x hx j => by
      by_cases z : j = i
      · subst z; rw [pk_us, if_pos (by omega), hx]
      · rw [pk_un z, hF' j]
        by_cases y : j < i
        · rw [if_pos y, if_pos (by omega)]
        · rw [if_neg y, if_neg (by omega)]
    have same : F i = cpd b.2.2 n0 (F i) → ∀ j, F' j = if j < i + 1 then cpd b.2.2 n0 (F j) else F j := fun hx j => by
      have := step (F' i) (by rw [eF]; exact hx) j
      rw [upd_self' rfl] at this
      exact this
    refine V_iload_n d_fe_leadToCopies_2 rfl rfl ?_
    refine V_aload_n d_fe_leadToCopies_3 rfl rfl ?_
    refine V_alen d_fe_leadToCopies_4 (hu_self _ _ _) (by decide) (by decide) ?_
    rw [arrL_len]
    refine V_icmp_ge d_fe_leadToCopies_5 (fun c5 => ?_) (fun c5 => ?_)
    · skip
      exact absurd (geN c5 (by omega)) (by omega)
    · skip
      refine V_aload_n d_fe_leadToCopies_8 rfl rfl ?_
      refine V_iload_n d_fe_leadToCopies_9 rfl rfl ?_
      refine V_iald i d_fe_leadToCopies_10 (hu_self _ _ _) rfl (by omega) (arrL_get _ (by omega)) ?_
      rw [eF]
      refine V_ldc d_fe_leadToCopies_11 kc_fe_87 ?_
      refine V_icmp_ne d_fe_leadToCopies_13 (fun c13 => ?_) (fun c13 => ?_)
      · skip
        obtain ⟨t, ht, et⟩ := (hF i (by omega)).resolve_left c13
        refine V_aload_n d_fe_leadToCopies_19 rfl rfl ?_
        refine V_getf d_fe_leadToCopies_20 fl_fe_43 (by rw [hu_ne _ _ nX]; exact X.1) rfl ?_
        refine V_getf d_fe_leadToCopies_23 fl_fe_176 (by rw [hu_ne _ _ n9]; exact Z.1.1) rfl ?_
        refine V_aload_n d_fe_leadToCopies_26 rfl rfl ?_
        refine V_iload_n d_fe_leadToCopies_27 rfl rfl ?_
        refine V_iald i d_fe_leadToCopies_28 (hu_self _ _ _) rfl (by omega) (arrL_get _ (by omega)) ?_
        rw [eF]
        refine V_iald t d_fe_leadToCopies_29 (by rw [hu_ne _ _ n11]; exact Z.2.2.1) et (by omega) (arrL_get _ (by omega)) ?_
        refine V_istore d_fe_leadToCopies_30 (by decide) rfl rfl ?_
        dsimp only [List.set]
        refine V_iload d_fe_leadToCopies_32 rfl ?_
        refine V_iconst (v := -1) d_fe_leadToCopies_34 (by decide) ?_
        refine V_icmp_eq d_fe_leadToCopies_35 (fun c35 => ?_) (fun c35 => ?_)
        · skip
          refine V_iinc (v := _) d_fe_leadToCopies_45 rfl rfl (by decide) rfl rfl ?_
          dsimp only [List.set]
          refine V_goto d_fe_leadToCopies_48 ?_
          rw [show Int32.ofInt 1 = 1 from rfl, nI_1]
          exact ih (i + 1) F' _ (by omega) (same (by unfold cpd; rw [if_pos (Or.inr (by rw [et, cl t (by omega)]; exact c35))]))
        · skip
          refine V_aload_n d_fe_leadToCopies_38 rfl rfl ?_
          refine V_iload_n d_fe_leadToCopies_39 rfl rfl ?_
          refine V_iload_n d_fe_leadToCopies_40 rfl rfl ?_
          refine V_iload d_fe_leadToCopies_41 rfl ?_
          refine V_iadd d_fe_leadToCopies_43 ?_
          refine V_iast i d_fe_leadToCopies_44 (hu_self _ _ _) rfl (by omega) (by rw [arrL_len]; omega) ?_
          rw [hu_hu, arrL_set _ _ (by omega)]
          refine V_iinc (v := _) d_fe_leadToCopies_45 rfl rfl (by decide) rfl rfl ?_
          dsimp only [List.set]
          refine V_goto d_fe_leadToCopies_48 ?_
          rw [show Int32.ofInt 1 = 1 from rfl, nI_1]
          exact ih (i + 1) (upd F' i _) _ (by omega) (step _ (by unfold cpd; rw [if_neg (fun z => z.elim c13 (fun y => c35 (by rw [et, cl t (by omega)] at y; exact y))), et, cl t (by omega)]))
      · skip
        refine V_goto d_fe_leadToCopies_16 ?_
        refine V_iinc (v := _) d_fe_leadToCopies_45 rfl rfl (by decide) rfl rfl ?_
        dsimp only [List.set]
        refine V_goto d_fe_leadToCopies_48 ?_
        rw [show Int32.ofInt 1 = 1 from rfl, nI_1]
        exact ih (i + 1) F' _ (by omega) (same (by unfold cpd; rw [if_pos (Or.inl c13)]))
theorem sp_fe_leadToCopies (G : Gk) {g : Gm} {h : Hp} {s : Mem} {q n n0 : Nat} {b : Bf} {F : Nat → Int32} (X : PX g h s) (Z : ZR g h b) (hq : h q = none) (n6 : n ≤ 6) (hF : InN 60 n F) : Ct G fe_leadToCopies [.ref (g.2 2), .ref q, .int (nI n0)] (hu h q (20, arrL n F)) (pN fun h' => h' = hu h q (20, arrL n (fun i => cpd b.2.2 n0 (F i)))) := by
  refine Ct.ofL (M := fe_leadToCopies) (lv := [some (.ref (g.2 2)), some (.ref q), some (.int (nI n0)), none, none]) mdf_fe_leadToCopies rfl (Nat.le_of_ble_eq_true rfl) rfl ?_
  refine V_iconst (v := 0) d_fe_leadToCopies_0 (by decide) ?_
  refine V_istore_n d_fe_leadToCopies_1 rfl (by decide) rfl rfl ?_
  dsimp only [List.set]
  exact lp_ltc G X Z hq n6 hF n 0 F none (by omega) (fun j => by rw [if_neg (by omega)])
/-- a copied row -/
noncomputable def cpF (s : Mem) (b : Bf) (n0 o f : Nat) (i : Nat) : Int32 := if s.2 3 (8 * sh s o + f) = 1 ∨ s.2 3 (8 * sh s o + f) = 2 then cpd b.2.2 n0 (rowF s o f i) else rowF s o f i
theorem row6 {s : Mem} (ivo : IvO s) (ivf : IvF s) (ivv : IvV s) {o f : Nat} (ho : o < nO s) (hf : f < nf s (sh s o)) : rowN s o f ≤ 6 := by
  rcases ivf _ (ivo.2.2 o ho).2 f hf with y | ⟨y | y, _⟩ | ⟨y, _⟩
  · unfold rowN rwN; rw [y]; show (1 : Nat) ≤ 6; decide
  · exact (row_in ivv ho hf (Or.inl y)).2
  · exact (row_in ivv ho hf (Or.inr y)).2
  · unfold rowN rwN; rw [y]; show (0 : Nat) ≤ 6; decide
theorem lp_cof (G : Gk) {s : Mem} {ga : Gm} {ha : Hp} {m q o t n0 : Nat} {b : Bf} {v : Int32} (R : RB ga ha s) (hm : Sm s) (ivs : IvS s) (ivo : IvO s) (ivf : IvF s) (ivv : IvV s) (Z : ZR ga ha b) (ho : o < nO s) (hmO : nO s ≤ m) (m60 : m < 60) (T0 : Im ga ha t (10, [.int (s.2 9 o), .ref (ga.2 (300 + o))])) (T : Im ga ha q (10, [.int v, .ref (ga.2 (300 + m))])) (post : Option Value → Hp → Prop)
    (K : ∀ (g1 : Gm) (h1 : Hp), Stq ga ha (fun r => r ≠ 300 + m) g1 h1 → g1.2 = ga.2 → NwT g1 h1 m q v (nf s (sh s o)) (rowN s o) (cpF s b n0 o) → post (some (.ref q)) h1) :
    ∀ (c f : Nat) (g1 : Gm) (h1 : Hp) (W : List Value) (l6 : Option Value), f + c = nf s (sh s o) → Stq ga ha (fun r => r ≠ 300 + m) g1 h1 → g1.2 = ga.2 → W.length = nf s (sh s o) → Cl g1 h1 (300 + m) (28, W) → (∀ f', f' < f → ∃ a, W[f']? = some (.ref a) ∧ Im g1 h1 a (20, arrL (rowN s o f') (cpF s b n0 o f'))) →
    V G fe_copyOf post h1 c (6 * c) 30 [some (.ref (ga.2 2)), some (.ref t), some (.int (nI n0)), some (.ref (ga.2 (100 + sh s o))), some (.ref q), some (.int (nI f)), l6] [] := by
  obtain ⟨es, hs⟩ := ivo.2.2 o ho
  have n8 := (ivs.2.2.1 _ hs).2
  have n10 := ivs.2.1
  have n60 := ivo.2.1
  intro c
  induction c with
  | zero =>
    intro f g1 h1 W l6 hf S e2 hW cW hA
    obtain rfl : f = nf s (sh s o) := by omega
    have R1 : RB g1 h1 s := ⟨R.1.st S (by omega) (fun r _ _ => S.2 r (by omega)), R.2.1.st hm.1 S (by omega) (by omega) (fun r _ _ => by omega), R.2.2.1.stx hm.2.1 S (by omega) (by omega) (fun r h1 h2 => by omega), R.2.2.2.1.st hm.2.2.1 S (by omega) (fun r _ _ => by omega), R.2.2.2.2.1.st hm.2.2.2 S (by omega) (fun r _ _ => by omega), R.2.2.2.2.2.st S (fun r _ _ => by omega)⟩
    obtain ⟨L, l1, l2, l3⟩ := R1.2.1
    have hsh := (l3 _ hs).2.at ivs hs
    rw [e2] at hsh
    refine V_iload d_fe_copyOf_30 rfl ?_
    refine V_aload_n d_fe_copyOf_32 rfl rfl ?_
    refine V_getf d_fe_copyOf_33 fl_fe_120 hsh rfl ?_
    refine V_icmp_ge d_fe_copyOf_36 (fun c36 => ?_) (fun c36 => ?_)
    · skip
      refine V_aload d_fe_copyOf_90 rfl ?_
      refine V_areturn d_fe_copyOf_92 rfl (by first | exact Or.inl ⟨_, rfl⟩ | exact Or.inr ⟨_, rfl⟩) (by first | exact Or.inl rfl | exact Or.inr ⟨_, rfl⟩) ?_
      exact K g1 h1 S e2 ⟨by rw [e2]; exact T.st S (by omega), W, hW, cW, hA⟩
    · skip
      exact absurd (ltN c36 (by omega)) (by omega)
  | succ c ih =>
    intro f g1 h1 W l6 hf S e2 hW cW hA
    have R1 : RB g1 h1 s := ⟨R.1.st S (by omega) (fun r _ _ => S.2 r (by omega)), R.2.1.st hm.1 S (by omega) (by omega) (fun r _ _ => by omega), R.2.2.1.stx hm.2.1 S (by omega) (by omega) (fun r h1 h2 => by omega), R.2.2.2.1.st hm.2.2.1 S (by omega) (fun r _ _ => by omega), R.2.2.2.2.1.st hm.2.2.2 S (by omega) (fun r _ _ => by omega), R.2.2.2.2.2.st S (fun r _ _ => by omega)⟩
    obtain ⟨L, l1, l2, l3⟩ := R1.2.1
    have hsh := (l3 _ hs).2.at ivs hs
    obtain ⟨L2, m1, m2, m3⟩ := (l3 _ hs).2.2
    obtain ⟨af, x1, x2⟩ := m3 f (by omega)
    obtain ⟨T', t1, t2, t3⟩ := R1.2.2.1
    obtain ⟨tt, u1, u2, W', w1, w2, w3⟩ := t3 o ho
    obtain ⟨ar, y1, y2⟩ := w3 f (by omega)
    have Z1 := Z.st S (by omega) (by omega) (by omega)
    have X1 := R1.1
    have T01 := T0.st S (by omega)
    have T1 := T.st S (by omega)
    have h6 := row6 ivo ivf ivv ho (f := f) (by omega)
    have cW' : h1 (ga.2 (300 + m)) = some (28, W) := by have := cW.1; rw [e2] at this; exact this
    have m2' : h1 (ga.2 (200 + sh s o)) = some (22, L2) := by have := m2.1; rw [e2] at this; exact this
    have w2' : h1 (ga.2 (300 + o)) = some (28, W') := by have := w2.1; rw [e2] at this; exact this
    rw [e2] at hsh
    refine V.need (cr := c + 1) (sr := 6 * c + rowN s o f) ?_ (by omega) (by omega)
    refine V_iload d_fe_copyOf_30 rfl ?_
    refine V_aload_n d_fe_copyOf_32 rfl rfl ?_
    refine V_getf d_fe_copyOf_33 fl_fe_120 hsh rfl ?_
    refine V_icmp_ge d_fe_copyOf_36 (fun c36 => ?_) (fun c36 => ?_)
    · skip
      exact absurd (geN c36 (by omega)) (by omega)
    · skip
      refine V_aload_n d_fe_copyOf_39 rfl rfl ?_
      refine V_getf d_fe_copyOf_40 fl_fe_140 T01.1 rfl ?_
      refine V_iload d_fe_copyOf_43 rfl ?_
      refine V_aald f d_fe_copyOf_45 w2' (by decide) (by decide) rfl (by omega) y1 ?_
      refine V_clone d_fe_copyOf_46 ml_fe_317 y2.1 arrL_ints (n := rowN s o f) (by rw [arrL_len]) (by decide) (Nat.le_of_ble_eq_true rfl) (fun q46 hq46 => ?_)
      refine V_castI d_fe_copyOf_49 (hu_self _ _ _) kl_fe_318 ?_
      refine V_astore d_fe_copyOf_52 (by decide) rfl rfl ?_
      dsimp only [List.set]
      refine V_aload_n d_fe_copyOf_54 rfl rfl ?_
      refine V_getf d_fe_copyOf_55 fl_fe_144 (by rw [hu_ne _ _ (fne hsh hq46)]; exact hsh) rfl ?_
      refine V_iload d_fe_copyOf_58 rfl ?_
      refine V_aald f d_fe_copyOf_60 (by rw [hu_ne _ _ (fne m2' hq46)]; exact m2') (by decide) (by decide) rfl (by omega) x1 ?_
      have hx2 : hu h1 q46 (20, arrL (rowN s o f) (rowF s o f)) af = some (2, fdS s (sh s o) f) := by rw [hu_ne _ _ (fne x2.1 hq46)]; exact x2.1
      refine V_callV (N := fd_leads) d_fe_copyOf_61 ml_fe_166 mdf_fd_leads wi_fd_leads wz_fd_leads (sp_fd_leads G hx2) hx2 ⟨_, rfl, rfl⟩ rfl rfl (by decide) (by decide) (Nat.le_of_ble_eq_true rfl) rfl rfl (kI fun r61 h61 ⟨e61, f61⟩ => ?_)
      subst e61 f61
      refine V_if_eq d_fe_copyOf_64 (fun c64 => ?_) (fun c64 => ?_)
      · skip
        have eC : arrL (rowN s o f) (rowF s o f) = arrL (rowN s o f) (cpF s b n0 o f) := arrL_congr (fun i _ => by unfold cpF; rw [if_neg (b01_e c64)])
        rw [eC]
        refine V_aload d_fe_copyOf_74 rfl ?_
        refine V_getf d_fe_copyOf_76 fl_fe_140 (by rw [hu_ne _ _ (fne T1.1 hq46)]; exact T1.1) rfl ?_
        refine V_iload d_fe_copyOf_79 rfl ?_
        refine V_aload d_fe_copyOf_81 rfl ?_
        refine V_aastA f d_fe_copyOf_83 (by rw [hu_ne _ _ (fne cW' hq46)]; exact cW') (hu_self _ _ _) rfl (by omega) (by omega) ov_AI ?_
        refine V_iinc (v := _) d_fe_copyOf_84 rfl rfl (by decide) rfl rfl ?_
        dsimp only [List.set]
        refine V_goto d_fe_copyOf_87 ?_
        rw [show Int32.ofInt 1 = 1 from rfl, nI_1]
        have S2 : Stq g1 h1 (fun r => r ≠ 300 + m) (ui g1 q46) (hu h1 q46 (20, arrL (rowN s o f) (cpF s b n0 o f))) := Stq.freshI hq46 _ _
        have S2' : Stq g1 h1 (fun _ => True) (ui g1 q46) (hu h1 q46 (20, arrL (rowN s o f) (cpF s b n0 o f))) := Stq.freshI hq46 _ _
        have cW2 := cW.st S2' trivial
        have S3 := Stq.put (h := hu h1 q46 (20, arrL (rowN s o f) (cpF s b n0 o f))) cW2.2 (28, W.set f (.ref q46))
        have cW3 := Cl.put (h := hu h1 q46 (20, arrL (rowN s o f) (cpF s b n0 o f))) cW2.2 (28, W.set f (.ref q46))
        have e2' : (ui g1 q46).2 (300 + m) = ga.2 (300 + m) := by show g1.2 _ = _; rw [e2]
        rw [e2'] at S3 cW3
        refine ih (f + 1) (ui g1 q46) _ (W.set f (.ref q46)) _ (by omega) ((S.tr S2).tr S3) e2 (by rw [List.length_set]; exact hW) cW3 (fun f' hf' => ?_)
        by_cases z : f' = f
        · (subst z; exact ⟨q46, List.getElem?_set_self (by omega), (Im.fresh _ _ _ _).st S3 (by omega)⟩)
        · (obtain ⟨a, a1, a2⟩ := hA f' (by omega); exact ⟨a, by rw [List.getElem?_set_ne (by omega)]; exact a1, (a2.st S2 (by omega)).st S3 (by omega)⟩)
      · skip
        have hk := b01_ne c64
        have P71 := sp_fe_leadToCopies G (n0 := n0) X1 Z1 hq46 h6 (F := rowF s o f) (fun i hi => ((row_in ivv ho (by omega) hk).1 i hi).imp id (fun ⟨t, a, e⟩ => ⟨t, by omega, e⟩))
        rw [e2] at P71
        refine V_aload_n d_fe_copyOf_67 rfl rfl ?_
        refine V_aload d_fe_copyOf_68 rfl ?_
        refine V_iload_n d_fe_copyOf_70 rfl rfl ?_
        refine V_callV (N := fe_leadToCopies) d_fe_copyOf_71 ml_fe_437 mdf_fe_leadToCopies wi_fe_leadToCopies wz_fe_leadToCopies (P71) (by have := X1.1; rw [e2] at this; rw [hu_ne _ _ (fne this hq46)]; exact this) ⟨_, rfl, rfl⟩ rfl rfl (by decide) (by decide) (Nat.le_of_ble_eq_true rfl) rfl rfl (kN fun h71 e71 => ?_)
        subst e71
        have eC : arrL (rowN s o f) (fun i => cpd b.2.2 n0 (rowF s o f i)) = arrL (rowN s o f) (cpF s b n0 o f) := arrL_congr (fun i _ => by unfold cpF; rw [if_pos hk])
        rw [eC]
        refine V_aload d_fe_copyOf_74 rfl ?_
        refine V_getf d_fe_copyOf_76 fl_fe_140 (by rw [hu_ne _ _ (fne T1.1 hq46)]; exact T1.1) rfl ?_
        refine V_iload d_fe_copyOf_79 rfl ?_
        refine V_aload d_fe_copyOf_81 rfl ?_
        refine V_aastA f d_fe_copyOf_83 (by rw [hu_ne _ _ (fne cW' hq46)]; exact cW') (hu_self _ _ _) rfl (by omega) (by omega) ov_AI ?_
        refine V_iinc (v := _) d_fe_copyOf_84 rfl rfl (by decide) rfl rfl ?_
        dsimp only [List.set]
        refine V_goto d_fe_copyOf_87 ?_
        rw [show Int32.ofInt 1 = 1 from rfl, nI_1]
        have S2 : Stq g1 h1 (fun r => r ≠ 300 + m) (ui g1 q46) (hu h1 q46 (20, arrL (rowN s o f) (cpF s b n0 o f))) := Stq.freshI hq46 _ _
        have S2' : Stq g1 h1 (fun _ => True) (ui g1 q46) (hu h1 q46 (20, arrL (rowN s o f) (cpF s b n0 o f))) := Stq.freshI hq46 _ _
        have cW2 := cW.st S2' trivial
        have S3 := Stq.put (h := hu h1 q46 (20, arrL (rowN s o f) (cpF s b n0 o f))) cW2.2 (28, W.set f (.ref q46))
        have cW3 := Cl.put (h := hu h1 q46 (20, arrL (rowN s o f) (cpF s b n0 o f))) cW2.2 (28, W.set f (.ref q46))
        have e2' : (ui g1 q46).2 (300 + m) = ga.2 (300 + m) := by show g1.2 _ = _; rw [e2]
        rw [e2'] at S3 cW3
        refine ih (f + 1) (ui g1 q46) _ (W.set f (.ref q46)) _ (by omega) ((S.tr S2).tr S3) e2 (by rw [List.length_set]; exact hW) cW3 (fun f' hf' => ?_)
        by_cases z : f' = f
        · (subst z; exact ⟨q46, List.getElem?_set_self (by omega), (Im.fresh _ _ _ _).st S3 (by omega)⟩)
        · (obtain ⟨a, a1, a2⟩ := hA f' (by omega); exact ⟨a, by rw [List.getElem?_set_ne (by omega)]; exact a1, (a2.st S2 (by omega)).st S3 (by omega)⟩)
theorem sp_fe_copyOf (G : Gk) {g : Gm} {h : Hp} {s : Mem} {m o t n0 : Nat} {b : Bf} (R : RB g h s) (hm : Sm s) (ivs : IvS s) (ivo : IvO s) (ivf : IvF s) (ivv : IvV s) (Z : ZR g h b) (ho : o < nO s) (hmO : nO s ≤ m) (m60 : m < 60) (T0 : Im g h t (10, [.int (s.2 9 o), .ref (g.2 (300 + o))])) : Ct G fe_copyOf [.ref (g.2 2), .ref t, .int (nI n0)] h (pR fun r h' => ∃ g', NwT g' h' m r (s.2 9 o) (nf s (sh s o)) (rowN s o) (cpF s b n0 o) ∧ Stq g h (fun r => r ≠ 300 + m) g' h' ∧ (∀ r, r ≠ 300 + m → g'.2 r = g.2 r)) := by
  have X := R.1
  obtain ⟨es, hs⟩ := ivo.2.2 o ho
  have n8 := (ivs.2.2.1 _ hs).2
  have n10 := ivs.2.1
  obtain ⟨L, l1, l2, l3⟩ := R.2.1
  have hsh := (l3 _ hs).2.at ivs hs
  refine Ct.ofL (M := fe_copyOf) (lv := [some (.ref (g.2 2)), some (.ref t), some (.int (nI n0)), none, none, none, none]) mdf_fe_copyOf rfl (Nat.le_of_ble_eq_true rfl) rfl ?_
  refine V_aload_n d_fe_copyOf_0 rfl rfl ?_
  refine V_getf d_fe_copyOf_1 fl_fe_11 (by first | assumption | exact X.1 | exact hu_self _ _ _ | (simp (disch := first | assumption | (apply Ne.symm; assumption)) only [hu_self, hu_ne]; assumption)) rfl ?_
  refine V_aload_n d_fe_copyOf_4 rfl rfl ?_
  refine V_getf d_fe_copyOf_5 fl_fe_163 T0.1 rfl ?_
  refine V_aald (sh s o) d_fe_copyOf_8 l2.1 (by decide) (by decide) es (by omega) (l3 _ hs).1 ?_
  refine V_astore_n d_fe_copyOf_9 rfl (by decide) rfl rfl ?_
  dsimp only [List.set]
  refine V.need (cr := (nf s (sh s o) + 1) + 1) (sr := (6 * nf s (sh s o) + 8) + 2) ?_ (by show nf s (sh s o) + 1 + 1 ≤ 10; omega) (by show 6 * nf s (sh s o) + 8 + 2 ≤ 58; omega)
  refine V_new (M := fe_copyOf) d_fe_copyOf_10 nw_fe_15 (fun q10 hq10 => ?_)
  refine V_dup d_fe_copyOf_13 rfl ?_
  refine V_aload_n d_fe_copyOf_14 rfl rfl ?_
  refine V_getf d_fe_copyOf_15 fl_fe_163 (by rw [hu_ne _ _ (fne T0.1 hq10)]; exact T0.1) rfl ?_
  refine V_aload_n d_fe_copyOf_18 rfl rfl ?_
  refine V_getf d_fe_copyOf_19 fl_fe_120 (by rw [hu_ne _ _ (fne hsh hq10)]; exact hsh) rfl ?_
  refine V_callI (N := th_init) d_fe_copyOf_22 ml_fe_137 mdf_th_init wi_th_init rfl rfl (sp_th_init G (hu_self _ _ _) (s.2 9 o) n8) rfl rfl (by decide) (by decide) (Nat.le_of_ble_eq_true rfl) rfl rfl (kN fun h22 ⟨q2, hq2, e22⟩ => ?_)
  have nqq : q10 ≠ q2 := fun z => by rw [← z, hu_self] at hq2; cases hq2
  rw [hu_ne _ _ (Ne.symm nqq)] at hq2
  have e22' : h22 = hu (hu h q2 (28, List.replicate (nf s (sh s o)) .null)) q10 (10, [.int (s.2 9 o), .ref q2]) := by rw [e22]; funext z; unfold hu; split; rfl; split; rfl; rfl
  subst e22'
  refine V_astore d_fe_copyOf_25 (by decide) rfl rfl ?_
  dsimp only [List.set]
  refine V_iconst (v := 0) d_fe_copyOf_27 (by decide) ?_
  refine V_istore d_fe_copyOf_28 (by decide) rfl rfl ?_
  dsimp only [List.set]
  have S2 := Stq.fresh (g := g) hq2 (300 + m) (28, List.replicate (nf s (sh s o)) .null)
  have C2 := Cl.fresh g h q2 (300 + m) (28, List.replicate (nf s (sh s o)) .null)
  have hq10' : hu h q2 (28, List.replicate (nf s (sh s o)) .null) q10 = none := by rw [hu_ne _ _ nqq]; exact hq10
  have S3 := Stq.freshI (g := ug g q2 (300 + m)) hq10' (fun _ => True) (10, [.int (s.2 9 o), .ref q2])
  have I3 := Im.fresh (ug g q2 (300 + m)) (hu h q2 (28, List.replicate (nf s (sh s o)) .null)) q10 (10, [.int (s.2 9 o), .ref q2])
  have g2 : ∀ r, r ≠ 300 + m → (ui (ug g q2 (300 + m)) q10).2 r = g.2 r := fun r r1 => ug_2n _ _ r1
  have gq : (ui (ug g q2 (300 + m)) q10).2 (300 + m) = q2 := show (ug g q2 (300 + m)).2 (300 + m) = q2 from ug_2 _ _ _
  have Sa : Stq g h (fun r => r ≠ 300 + m) (ui (ug g q2 (300 + m)) q10) (hu (hu h q2 (28, List.replicate (nf s (sh s o)) .null)) q10 (10, [.int (s.2 9 o), .ref q2])) := S2.tr (S3.mo (fun _ _ => trivial))
  have Ra : RB (ui (ug g q2 (300 + m)) q10) (hu (hu h q2 (28, List.replicate (nf s (sh s o)) .null)) q10 (10, [.int (s.2 9 o), .ref q2])) s := ⟨R.1.st Sa (by omega) (fun r _ _ => Sa.2 r (by omega)), R.2.1.st hm.1 Sa (by omega) (by omega) (fun r _ _ => by omega), R.2.2.1.stx hm.2.1 Sa (by omega) (by omega) (fun r h1 h2 => by omega), R.2.2.2.1.st hm.2.2.1 Sa (by omega) (fun r _ _ => by omega), R.2.2.2.2.1.st hm.2.2.2 Sa (by omega) (fun r _ _ => by omega), R.2.2.2.2.2.st Sa (fun r _ _ => by omega)⟩
  have Q := lp_cof G (ga := ui (ug g q2 (300 + m)) q10) (m := m) (q := q10) (n0 := n0) (v := s.2 9 o) Ra hm ivs ivo ivf ivv (Z.st Sa (by omega) (by omega) (by omega)) ho hmO m60 (by rw [g2 (300 + o) (by omega)]; exact T0.st Sa (by omega)) (by rw [gq]; exact I3) (pR fun r h' => ∃ g', NwT g' h' m r (s.2 9 o) (nf s (sh s o)) (rowN s o) (cpF s b n0 o) ∧ Stq g h (fun r => r ≠ 300 + m) g' h' ∧ (∀ r, r ≠ 300 + m → g'.2 r = g.2 r)) (fun g1 h1 S1 e2 nt => ⟨_, rfl, g1, nt, Sa.tr S1, fun r hr => by rw [e2]; exact g2 r hr⟩) (nf s (sh s o)) 0 _ _ (List.replicate (nf s (sh s o)) .null) none (by omega) (Stq.rf _ _ _) rfl (List.length_replicate) (C2.st S3 trivial) (fun f' hf' => by omega)
  rw [g2 2 (by omega), g2 (100 + sh s o) (by omega)] at Q
  exact Q
