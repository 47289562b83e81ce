/-! reach, holds, holders -/
theorem RB.re {g : Gm} {h0 h : Hp} {s : Mem} {b : Bf} (R : RB g h0 s) (hm : Sm s) (hR : ReR h (g.2 9) (g.2 10) (g.2 11) b) (hF : Fr3 h0 (g.2 9) (g.2 10) (g.2 11) h) : RB g h s ∧ ZR g h b ∧ Stq g h0 nSc g h := by
  obtain ⟨zv, ⟨b0, zr⟩, ⟨P, zp⟩, z0, z1⟩ := R.2.2.2.2.2
  have S : Stq g h0 (fun r => r ≠ 9 ∧ r ≠ 10 ∧ r ≠ 11) g h := Stq.of (fun a ha hd => hF a (fun z => hd.1 (by rw [z]; exact zr.1.2)) (fun z => hd.2.1 (by rw [z]; exact zr.2.1.2)) (fun z => hd.2.2 (by rw [z]; exact zr.2.2.2)))
  have S2 := S.mo (E := nSc) (fun r hr => by unfold nSc at hr; omega)
  have Z : ZR g h b := ⟨⟨hR.1, zr.1.2⟩, ⟨hR.2.1, zr.2.1.2⟩, ⟨hR.2.2.1, zr.2.2.2⟩⟩
  exact ⟨R.sc hm S2 ⟨zv.st S (by omega), ⟨b, Z⟩, ⟨P, zp.st S (by omega) (by omega) (by omega) (by omega)⟩, z0.st S (by omega) (by omega) (by omega), z1.st S (by omega) (by omega) (by omega)⟩, Z, S2⟩
theorem ZR.re {g : Gm} {h : Hp} {b : Bf} (Z : ZR g h b) : ReR h (g.2 9) (g.2 10) (g.2 11) b := ⟨Z.1.1, Z.2.1.1, Z.2.2.1, Z.2.1.ne Z.2.2 (by omega)⟩
theorem bAll_row (s : Mem) (y : Nat) (b : Bf) : ∀ n, bAll b (fun i => s.2 11 (6 * y + i)) n = bRow s y b n
  | 0 => rfl
  | n + 1 => by rw [bAll, bRow, bAll_row s y b n]
/-- what stands in a row that leads -/
theorem row_in {s : Mem} (ivv : IvV s) {o f : Nat} (ho : o < nO s) (hf : f < nf s (sh s o)) (hk : s.2 3 (8 * sh s o + f) = 1 ∨ s.2 3 (8 * sh s o + f) = 2) : InN (nO s) (rowN s o f) (rowF s o f) ∧ rowN s o f ≤ 6 := by
  unfold InN rowN rowF rwN rwF
  rcases hk with e | e
  · rw [e]
    refine ⟨fun i hi => ?_, show (1 : Nat) ≤ 6 by decide⟩
    exact (ivv o ho f hf).1 e
  · obtain ⟨n, q1, q2, q3⟩ := (ivv o ho f hf).2 e
    rw [e, q2]
    simp only [if_true]
    rw [cl n (by omega)]
    exact ⟨fun i hi => Or.inr (q3 i hi), q1⟩
theorem bFld_s {s : Mem} {o f : Nat} {b : Bf} (hk : s.2 3 (8 * sh s o + f) = 1 ∨ s.2 3 (8 * sh s o + f) = 2) (hw : s.2 7 (8 * sh s o + f) &&& 4 = 0) : bFld s o b (f + 1) = bAll (bFld s o b f) (rowF s o f) (rowN s o f) := by
  rw [bFld, if_pos hw]
  unfold rowF rowN rwN rwF
  rcases hk with e | e
  · rw [if_pos e, e]
    rfl
  · rw [if_neg (by rw [e]; decide), if_pos e, e]
    simp only [if_true]
    exact (bAll_row s (8 * o + f) _ _).symm
theorem bFld_n {s : Mem} {o f : Nat} {b : Bf} (hk : ¬ ((s.2 3 (8 * sh s o + f) = 1 ∨ s.2 3 (8 * sh s o + f) = 2) ∧ s.2 7 (8 * sh s o + f) &&& 4 = 0)) : bFld s o b (f + 1) = bFld s o b f := by
  rw [bFld]
  by_cases hw : s.2 7 (8 * sh s o + f) &&& 4 = 0
  · rw [if_pos hw, if_neg (fun q => hk ⟨Or.inl q, hw⟩), if_neg (fun q => hk ⟨Or.inr q, hw⟩)]
  · rw [if_neg hw]
theorem lp_cre2 (G : Gk) {g : Gm} {h0 : Hp} {s : Mem} (R : RB g h0 s) (hm : Sm s) (ivs : IvS s) (ivo : IvO s) (ivv : IvV s) {o t : Nat} {b : Bf} {v1 : Int32} {k : Nat} (ho : o < nO s) (hb : bOK (nO s) b) (ht : h0 t = some (10, [.int (s.2 9 o), .ref (g.2 (300 + o))])) (post : Option Value → Hp → Prop)
    (K : ∀ (h : Hp) (l5 : Option Value), ReR h (g.2 9) (g.2 10) (g.2 11) (bHeld s o b) → Fr3 h0 (g.2 9) (g.2 10) (g.2 11) h → V G fe_reach post h 0 0 100 [some (.ref (g.2 2)), some (.int v1), some (.int (nI k)), some (.ref t), some (.ref (g.2 (100 + sh s o))), l5] []) : ∀ (c f : Nat) (h : Hp), f + c = nf s (sh s o) → ReR h (g.2 9) (g.2 10) (g.2 11) (bFld s o b f) → Fr3 h0 (g.2 9) (g.2 10) (g.2 11) h →
    V G fe_reach post h 0 0 56 [some (.ref (g.2 2)), some (.int v1), some (.int (nI k)), some (.ref t), some (.ref (g.2 (100 + sh s o))), some (.int (nI f))] [] := by
  have n60 := ivo.2.1
  obtain ⟨es, hs⟩ := ivo.2.2 o ho
  have n8 := (ivs.2.2.1 _ hs).2
  intro c
  induction c with
  | zero =>
    intro f h hf hR hF
    obtain rfl : f = nf s (sh s o) := by omega
    obtain ⟨R1, Z1, S1⟩ := R.re hm hR hF
    obtain ⟨L, l1, l2, l3⟩ := R1.2.1
    have hsh := (l3 _ hs).2.at ivs hs
    refine V_iload d_fe_reach_56 rfl ?_
    refine V_aload d_fe_reach_58 rfl ?_
    refine V_getf d_fe_reach_60 fl_fe_120 hsh rfl ?_
    refine V_icmp_ge d_fe_reach_63 (fun c63 => ?_) (fun c63 => ?_)
    · skip
      exact K h _ hR hF
    · skip
      exact absurd (ltN c63 (by omega)) (by omega)
  | succ c ih =>
    intro f h hf hR hF
    obtain ⟨R1, Z1, S1⟩ := R.re hm hR hF
    have X := R1.1
    obtain ⟨L, l1, l2, l3⟩ := R1.2.1
    obtain ⟨T, t1, t2, t3⟩ := R1.2.2.1
    obtain ⟨a, u1, u2, W, w1, w2, w3⟩ := t3 o ho
    obtain ⟨L2, m1, m2, m3⟩ := (l3 _ hs).2.2
    have hsh := (l3 _ hs).2.at ivs hs
    obtain ⟨af, x1, x2⟩ := m3 f (by omega)
    obtain ⟨ar, y1, y2⟩ := w3 f (by omega)
    have ht1 : h t = some (10, [.int (s.2 9 o), .ref (g.2 (300 + o))]) := by
      obtain ⟨b0, zr⟩ := R.2.2.2.2.2.2.1
      rw [hF t (kne ht zr.1.1 (by decide)) (kne ht zr.2.1.1 (by decide)) (kne ht zr.2.2.1 (by decide))]; exact ht
    refine V_iload d_fe_reach_56 rfl ?_
    refine V_aload d_fe_reach_58 rfl ?_
    refine V_getf d_fe_reach_60 fl_fe_120 hsh rfl ?_
    refine V_icmp_ge d_fe_reach_63 (fun c63 => ?_) (fun c63 => ?_)
    · skip
      exact absurd (geN c63 (by omega)) (by omega)
    · skip
      refine V_aload d_fe_reach_66 rfl ?_
      refine V_getf d_fe_reach_68 fl_fe_144 hsh rfl ?_
      refine V_iload d_fe_reach_71 rfl ?_
      refine V_aald f d_fe_reach_73 m2.1 (by decide) (by decide) rfl (by omega) x1 ?_
      refine V_callV (N := fd_holdsOn) d_fe_reach_74 ml_fe_213 mdf_fd_holdsOn wi_fd_holdsOn wz_fd_holdsOn (sp_fd_holdsOn G x2.1) x2.1 ⟨_, rfl, rfl⟩ rfl rfl (by decide) (by decide) (Nat.le_of_ble_eq_true rfl) rfl rfl (kI fun r74 h74 ⟨e74, f74⟩ => ?_)
      subst e74 f74
      refine V_if_eq d_fe_reach_77 (fun c77 => ?_) (fun c77 => ?_)
      · skip
        refine V_iinc (v := _) d_fe_reach_94 rfl rfl (by decide) rfl rfl ?_
        dsimp only [List.set]
        refine V_goto d_fe_reach_97 ?_
        rw [show Int32.ofInt 1 = 1 from rfl, nI_1]
        refine ih (f + 1) h (by omega) ?_ hF
        rw [bFld_n (b01_e c77)]
        exact hR
      · skip
        obtain ⟨hk, hw⟩ := b01_ne c77
        obtain ⟨hin, h6⟩ := row_in ivv ho (by omega) hk
        refine V_aload_n d_fe_reach_80 rfl rfl ?_
        refine V_getf d_fe_reach_81 fl_fe_43 (by first | assumption | exact X.1 | exact hu_self _ _ _ | (simp (disch := first | assumption | (apply Ne.symm; assumption)) only [hu_self, hu_ne]; assumption)) rfl ?_
        refine V_aload_n d_fe_reach_84 rfl rfl ?_
        refine V_getf d_fe_reach_85 fl_fe_140 ht1 rfl ?_
        refine V_iload d_fe_reach_88 rfl ?_
        refine V_aald f d_fe_reach_90 w2.1 (by decide) (by decide) rfl (by omega) y1 ?_
        refine V_callV (N := re_addAll) d_fe_reach_91 ml_fe_216 mdf_re_addAll wi_re_addAll wz_re_addAll (sp_re_addAll G hR y2.1 (Cl.neI y2 Z1.2.1 (by omega)) (Cl.neI y2 Z1.2.2 (by omega)) n60 (by omega) (bFld_ok ivo ivv ho hb f (by omega)) hin) hR.1 ⟨_, rfl, rfl⟩ rfl rfl (by decide) (by decide) (Nat.le_of_ble_eq_true rfl) rfl rfl (kN fun h91 ⟨p91, f91⟩ => ?_)
        refine V_iinc (v := _) d_fe_reach_94 rfl rfl (by decide) rfl rfl ?_
        dsimp only [List.set]
        refine V_goto d_fe_reach_97 ?_
        rw [show Int32.ofInt 1 = 1 from rfl, nI_1]
        refine ih (f + 1) _ (by omega) ?_ (hF.tr f91)
        rw [bFld_s hk hw]
        exact p91
theorem lp_cre1 (G : Gk) {g : Gm} {h0 : Hp} {s : Mem} (R : RB g h0 s) (hm : Sm s) (ivs : IvS s) (ivo : IvO s) (ivv : IvV s) {v1 : Int32} : ∀ (c k : Nat) (h : Hp) (b : Bf) (l3 l4 l5 : Option Value), k + c = 60 → bOK (nO s) b → ReR h (g.2 9) (g.2 10) (g.2 11) b → Fr3 h0 (g.2 9) (g.2 10) (g.2 11) h →
    V G fe_reach (pN fun h' => ReR h' (g.2 9) (g.2 10) (g.2 11) (bLoop s c k b) ∧ Fr3 h0 (g.2 9) (g.2 10) (g.2 11) h') h 0 0 10 [some (.ref (g.2 2)), some (.int v1), some (.int (nI k)), l3, l4, l5] [] := by
  have n60 := ivo.2.1
  have n10 := ivs.2.1
  intro c
  induction c with
  | zero =>
    intro k h b l3 l4 l5 hk hb hR hF
    obtain rfl : k = 60 := by omega
    refine V_iload_n d_fe_reach_10 rfl rfl ?_
    refine V_bipush (v := 60) d_fe_reach_11 (by decide) ?_
    refine V_icmp_ge d_fe_reach_13 (fun c13 => ?_) (fun c13 => ?_)
    · skip
      refine V_return d_fe_reach_106 rfl ?_
      exact ⟨rfl, hR, hF⟩
    · skip
      exact absurd (by decide) c13
  | succ c ih =>
    intro k h b l3 l4 l5 hk hb hR hF
    obtain ⟨R1, Z1, S1⟩ := R.re hm hR hF
    have X := R1.1
    have hle := hb.le (by omega)
    obtain ⟨L, l1, l2, l3⟩ := R1.2.1
    obtain ⟨T, t1, t2, t3⟩ := R1.2.2.1
    refine V_iload_n d_fe_reach_10 rfl rfl ?_
    refine V_bipush (v := 60) d_fe_reach_11 (by decide) ?_
    refine V_icmp_ge d_fe_reach_13 (fun c13 => ?_) (fun c13 => ?_)
    · skip
      exact absurd (geN (b := 60) c13 (by omega)) (by omega)
    · skip
      refine V_iload_n d_fe_reach_16 rfl rfl ?_
      refine V_aload_n d_fe_reach_17 rfl rfl ?_
      refine V_getf d_fe_reach_18 fl_fe_43 (by first | assumption | exact X.1 | exact hu_self _ _ _ | (simp (disch := first | assumption | (apply Ne.symm; assumption)) only [hu_self, hu_ne]; assumption)) rfl ?_
      refine V_getf d_fe_reach_21 fl_fe_209 hR.1 rfl ?_
      refine V_icmp_ge d_fe_reach_24 (fun c24 => ?_) (fun c24 => ?_)
      · skip
        refine V_return d_fe_reach_106 rfl ?_
        rw [bLoop, if_neg (by have := geN c24 (by omega); omega)]
        exact ⟨rfl, hR, hF⟩
      · skip
        have hlt := ltN c24 (by omega)
        obtain ⟨t, ht, et, _⟩ := hb.1 k hlt
        obtain ⟨a, u1, u2, W, w1, w2, w3⟩ := t3 t ht
        obtain ⟨es, hs⟩ := ivo.2.2 t ht
        refine V_aload_n d_fe_reach_27 rfl rfl ?_
        refine V_getf d_fe_reach_28 fl_fe_17 (by first | assumption | exact X.1 | exact hu_self _ _ _ | (simp (disch := first | assumption | (apply Ne.symm; assumption)) only [hu_self, hu_ne]; assumption)) rfl ?_
        refine V_aload_n d_fe_reach_31 rfl rfl ?_
        refine V_getf d_fe_reach_32 fl_fe_43 (by first | assumption | exact X.1 | exact hu_self _ _ _ | (simp (disch := first | assumption | (apply Ne.symm; assumption)) only [hu_self, hu_ne]; assumption)) rfl ?_
        refine V_getf d_fe_reach_35 fl_fe_210 hR.1 rfl ?_
        refine V_iload_n d_fe_reach_38 rfl rfl ?_
        refine V_iald k d_fe_reach_39 hR.2.1 rfl (by omega) (arrL_get _ (by omega)) ?_
        refine V_aald t d_fe_reach_40 t2.1 (by decide) (by decide) et (by omega) u1 ?_
        refine V_astore_n d_fe_reach_41 rfl (by decide) rfl rfl ?_
        dsimp only [List.set]
        refine V_aload_n d_fe_reach_42 rfl rfl ?_
        refine V_getf d_fe_reach_43 fl_fe_11 (by first | assumption | exact X.1 | exact hu_self _ _ _ | (simp (disch := first | assumption | (apply Ne.symm; assumption)) only [hu_self, hu_ne]; assumption)) rfl ?_
        refine V_aload_n d_fe_reach_46 rfl rfl ?_
        refine V_getf d_fe_reach_47 fl_fe_163 u2.1 rfl ?_
        refine V_aald (sh s t) d_fe_reach_50 l2.1 (by decide) (by decide) es (by omega) (l3 _ hs).1 ?_
        refine V_astore d_fe_reach_51 (by decide) rfl rfl ?_
        dsimp only [List.set]
        refine V_iconst (v := 0) d_fe_reach_53 (by decide) ?_
        refine V_istore d_fe_reach_54 (by decide) rfl rfl ?_
        dsimp only [List.set]
        refine lp_cre2 G R1 hm ivs ivo ivv ht hb u2.1 _ (fun h1 l5' r1 f1 => ?_) (nf s (sh s t)) 0 h (by omega) hR (Fr3.rf _ _ _ _)
        refine V_iinc d_fe_reach_100 rfl rfl (by decide) rfl rfl ?_
        dsimp only [List.set]
        refine V_goto d_fe_reach_103 ?_
        rw [show Int32.ofInt 1 = 1 from rfl, nI_1]
        have ek : bLoop s (c + 1) k b = bLoop s c (k + 1) (bHeld s t b) := by rw [bLoop, if_pos hlt, et, cl t (by omega)]
        rw [ek]
        exact ih (k + 1) _ _ _ _ _ (by omega) (bFld_ok ivo ivv ht hb _ (Nat.le_refl _)) r1 (hF.tr f1)
/-- the same as far as it is looked at -/
def bE (N : Nat) (b c : Bf) : Prop := b.1 = c.1 ∧ (∀ k, k < b.1 → b.2.1 k = c.2.1 k) ∧ ∀ t, t < N → b.2.2 t = c.2.2 t
theorem bE.add {N : Nat} {b c : Bf} (hN : N < 1000) (h : bE N b c) {v : Int32} (hv : v = MISS ∨ ∃ t, t < N ∧ v = nI t) : bE N (bAdd b v) (bAdd c v) := by
  rcases hv with e | ⟨t, ht, e⟩
  · rw [bAdd_no (Or.inl e), bAdd_no (Or.inl e)]
    exact h
  · subst e
    by_cases q : b.2.2 t = -1
    · rw [bAdd_yes (by omega) (nI_miss (by omega)) q, bAdd_yes (by omega) (nI_miss (by omega)) (by rw [← h.2.2 t ht]; exact q)]
      refine ⟨by show b.1 + 1 = c.1 + 1; rw [h.1], fun k hk => ?_, fun x hx => ?_⟩
      · dsimp only at hk ⊢
        rw [← h.1]
        by_cases z : k = b.1
        · subst z; rw [pk_us, pk_us]
        · rw [pk_un z, pk_un z]; exact h.2.1 k (by omega)
      · dsimp only
        rw [← h.1]
        by_cases z : x = t
        · subst z; rw [pk_us, pk_us]
        · rw [pk_un z, pk_un z]; exact h.2.2 x hx
    · rw [bAdd_no (Or.inr (by rw [cl t (by omega)]; exact q)), bAdd_no (Or.inr (by rw [cl t (by omega), ← h.2.2 t ht]; exact q))]
      exact h
theorem bE.all {N : Nat} {b c : Bf} (hN : N < 1000) (h : bE N b c) {F : Nat → Int32} : ∀ n, InN N n F → bE N (bAll b F n) (bAll c F n)
  | 0, _ => h
  | n + 1, hv => (bE.all hN h n (fun i hi => hv i (by omega))).add hN (hv n (by omega))
theorem bE.fld {s : Mem} (ivo : IvO s) (ivv : IvV s) {o : Nat} (ho : o < nO s) {b c : Bf} (h : bE (nO s) b c) : ∀ f, f ≤ nf s (sh s o) → bE (nO s) (bFld s o b f) (bFld s o c f)
  | 0, _ => h
  | f + 1, hf => by
    have ih := bE.fld ivo ivv ho h f (by omega)
    have n60 := ivo.2.1
    by_cases q : (s.2 3 (8 * sh s o + f) = 1 ∨ s.2 3 (8 * sh s o + f) = 2) ∧ s.2 7 (8 * sh s o + f) &&& 4 = 0
    · rw [bFld_s q.1 q.2, bFld_s q.1 q.2]
      exact ih.all (by omega) _ (row_in ivv ho (by omega) q.1).1
    · rw [bFld_n q, bFld_n q]
      exact ih
theorem bE.loop {s : Mem} (ivo : IvO s) (ivv : IvV s) : ∀ n k b c, bOK (nO s) b → bOK (nO s) c → bE (nO s) b c → bE (nO s) (bLoop s n k b) (bLoop s n k c)
  | 0, _, _, _, _, _, h => h
  | n + 1, k, b, c, hb, hc, h => by
    have n60 := ivo.2.1
    rw [bLoop, bLoop, ← h.1]
    by_cases q : k < b.1
    · rw [if_pos q, if_pos q, ← h.2.1 k q]
      obtain ⟨t, ht, et, _⟩ := hb.1 k q
      rw [et, cl t (by omega)]
      exact bE.loop ivo ivv n (k + 1) _ _ (bFld_ok ivo ivv ht hb _ (Nat.le_refl _)) (bFld_ok ivo ivv ht hc _ (Nat.le_refl _)) (h.fld ivo ivv ht _ (Nat.le_refl _))
    · rw [if_neg q, if_neg q]
      exact h
theorem bLoop_y {s : Mem} {n k : Nat} {b : Bf} (q : k < b.1) : bLoop s (n + 1) k b = bLoop s n (k + 1) (bHeld s (b.2.1 k).toNatClampNeg b) := by
  rw [bLoop, if_pos q]
theorem bLoop_n {s : Mem} {k : Nat} {b : Bf} (q : ¬ k < b.1) : ∀ n, bLoop s n k b = b
  | 0 => rfl
  | n + 1 => by rw [bLoop, if_neg q]
theorem bLoop_fuel {s : Mem} (ivo : IvO s) (ivv : IvV s) : ∀ n k b, bOK (nO s) b → 60 ≤ k + n → bLoop s (n + 1) k b = bLoop s n k b
  | 0, k, b, hb, h => by
    have n60 := ivo.2.1
    have := hb.le (by omega)
    exact bLoop_n (by omega) 1
  | n + 1, k, b, hb, h => by
    have n60 := ivo.2.1
    by_cases q : k < b.1
    · rw [bLoop_y q, bLoop_y (n := n) q]
      obtain ⟨t, ht, et, _⟩ := hb.1 k q
      rw [et, cl t (by omega)]
      exact bLoop_fuel ivo ivv n (k + 1) _ (bFld_ok ivo ivv ht hb _ (Nat.le_refl _)) (by omega)
    · rw [bLoop_n q, bLoop_n q]
theorem sp_fe_reach (G : Gk) {g : Gm} {h : Hp} {s : Mem} (R : RB g h s) (hm : Sm s) (ivs : IvS s) (ivo : IvO s) (ivv : IvV s) {o : Nat} (ho : o < nO s) : Ct G fe_reach [.ref (g.2 2), .int (nI o)] h (pN fun h' => ∃ b, ZR g h' b ∧ bE (nO s) b (findB s o) ∧ bOK (nO s) b ∧ RB g h' s ∧ Stq g h nSc g h') := by
  have X := R.1
  have n60 := ivo.2.1
  obtain ⟨b0, zr⟩ := R.2.2.2.2.2.2.1
  refine Ct.ofL (M := fe_reach) (lv := [some (.ref (g.2 2)), some (.int (nI o)), none, none, none, none]) mdf_fe_reach rfl (Nat.le_of_ble_eq_true rfl) rfl ?_
  refine V_aload_n d_fe_reach_0 rfl rfl ?_
  refine V_getf d_fe_reach_1 fl_fe_43 (by first | assumption | exact X.1 | exact hu_self _ _ _ | (simp (disch := first | assumption | (apply Ne.symm; assumption)) only [hu_self, hu_ne]; assumption)) rfl ?_
  refine V_iload_n d_fe_reach_4 rfl rfl ?_
  refine V_callV (N := re_start) d_fe_reach_5 ml_fe_206 mdf_re_start wi_re_start wz_re_start (sp_re_start G zr.re (t := o) (by omega)) zr.1.1 ⟨_, rfl, rfl⟩ rfl rfl (by decide) (by decide) (Nat.le_of_ble_eq_true rfl) rfl rfl (kN fun h5 ⟨b1, e1, e2, p5, f5⟩ => ?_)
  refine V_iconst (v := 0) d_fe_reach_8 (by decide) ?_
  refine V_istore_n d_fe_reach_9 rfl (by decide) rfl rfl ?_
  dsimp only [List.set]
  have ok0 : bOK (nO s) b1 := ⟨fun k hk => by omega, fun t ht => Or.inl (e2 t (by omega))⟩
  have hE : bE (nO s) b1 (bStart s) := ⟨e1, fun k hk => by omega, fun t ht => by rw [e2 t (by omega)]; unfold bStart clr; simp [ht]⟩
  have ok1 := ok0.add (by omega) (v := nI o) (Or.inr ⟨o, ho, rfl⟩)
  have ok2 := (bStart_ok s).add (by omega) (v := nI o) (Or.inr ⟨o, ho, rfl⟩)
  refine (lp_cre1 G R hm ivs ivo ivv 60 0 h5 _ none none none (by omega) ok1 p5 f5).mono (fun v h' hp => ?_)
  obtain ⟨q1, q2, q3⟩ := hp
  obtain ⟨R1, Z1, S1⟩ := R.re hm q2 q3
  refine ⟨q1, _, Z1, ?_, bLoop_ok ivo ivv 60 0 _ ok1, R1, S1⟩
  unfold findB
  rw [bLoop_fuel ivo ivv 60 0 _ ok2 (by omega)]
  exact bE.loop ivo ivv 60 0 _ _ ok1 ok2 (hE.add (by omega) (Or.inr ⟨o, ho, rfl⟩))
def R_hol (s : Mem) (v w : Int32) (r : Int32) : Prop := cs (iO s v ∧ iO s w) (r = b01 (0 < (findB s v.toNatClampNeg).2.2 w.toNatClampNeg)) (r = -2)
theorem sp_fe_holds (G : Gk) {g : Gm} {h : Hp} {s : Mem} (R : RB g h s) (hm : Sm s) (ivs : IvS s) (ivo : IvO s) (ivv : IvV s) (v w : Int32) : Ct G fe_holds [.ref (g.2 2), .int v, .int w] h (pI fun r h' => R_hol s v w r ∧ RB g h' s ∧ Stq g h nSc g h') := by
  have X := R.1
  have n60 := ivo.2.1
  refine Ct.ofL (M := fe_holds) (lv := [some (.ref (g.2 2)), some (.int v), some (.int w)]) mdf_fe_holds rfl (Nat.le_of_ble_eq_true rfl) rfl ?_
  refine V_aload_n d_fe_holds_0 rfl rfl ?_
  refine V_iload_n d_fe_holds_1 rfl rfl ?_
  refine V_callV (N := fe_isThing) d_fe_holds_2 ml_fe_160 mdf_fe_isThing wi_fe_isThing wz_fe_isThing (sp_fe_isThing G X ivo _) (by first | assumption | exact X.1 | exact hu_self _ _ _ | (simp (disch := first | assumption | (apply Ne.symm; assumption)) only [hu_self, hu_ne]; assumption)) ⟨_, rfl, rfl⟩ rfl rfl (by decide) (by decide) (Nat.le_of_ble_eq_true rfl) rfl rfl (kI fun r2 h2 ⟨e2, f2⟩ => ?_)
  subst e2 f2
  refine V_if_eq d_fe_holds_5 (fun c5 => ?_) (fun c5 => ?_)
  · skip
    refine V_bipush (v := -2) d_fe_holds_16 (by decide) ?_
    refine V_ireturn d_fe_holds_18 rfl ?_
    exact ⟨_, rfl, cs.mf (fun q => b01_e c5 q.1) rfl, R, Stq.rf _ _ _⟩
  · skip
    refine V_aload_n d_fe_holds_8 rfl rfl ?_
    refine V_iload_n d_fe_holds_9 rfl rfl ?_
    refine V_callV (N := fe_isThing) d_fe_holds_10 ml_fe_160 mdf_fe_isThing wi_fe_isThing wz_fe_isThing (sp_fe_isThing G X ivo _) (by first | assumption | exact X.1 | exact hu_self _ _ _ | (simp (disch := first | assumption | (apply Ne.symm; assumption)) only [hu_self, hu_ne]; assumption)) ⟨_, rfl, rfl⟩ rfl rfl (by decide) (by decide) (Nat.le_of_ble_eq_true rfl) rfl rfl (kI fun r10 h10 ⟨e10, f10⟩ => ?_)
    subst e10 f10
    refine V_if_ne d_fe_holds_13 (fun c13 => ?_) (fun c13 => ?_)
    · skip
      obtain ⟨o, ho, rfl⟩ := b01_ne c5
      obtain ⟨u, hu1, rfl⟩ := b01_ne c13
      refine V_aload_n d_fe_holds_19 rfl rfl ?_
      refine V_iload_n d_fe_holds_20 rfl rfl ?_
      refine V_callV (N := fe_reach) d_fe_holds_21 ml_fe_173 mdf_fe_reach wi_fe_reach wz_fe_reach (sp_fe_reach G R hm ivs ivo ivv ho) (by first | assumption | exact X.1 | exact hu_self _ _ _ | (simp (disch := first | assumption | (apply Ne.symm; assumption)) only [hu_self, hu_ne]; assumption)) ⟨_, rfl, rfl⟩ rfl rfl (by decide) (by decide) (Nat.le_of_ble_eq_true rfl) rfl rfl (kN fun h21 ⟨b, Z, hE, hb, R1, S1⟩ => ?_)
      have X := R1.1
      refine V_aload_n d_fe_holds_24 rfl rfl ?_
      refine V_getf d_fe_holds_25 fl_fe_43 (by first | assumption | exact X.1 | exact hu_self _ _ _ | (simp (disch := first | assumption | (apply Ne.symm; assumption)) only [hu_self, hu_ne]; assumption)) rfl ?_
      refine V_getf d_fe_holds_28 fl_fe_176 Z.1.1 rfl ?_
      refine V_iload_n d_fe_holds_31 rfl rfl ?_
      refine V_iald u d_fe_holds_32 Z.2.2.1 rfl (by omega) (arrL_get _ (by omega)) ?_
      rw [hE.2.2 u hu1]
      refine V_if_le d_fe_holds_33 (fun c33 => ?_) (fun c33 => ?_)
      · skip
        refine V_iconst (v := 0) d_fe_holds_40 (by decide) ?_
        refine V_ireturn d_fe_holds_41 rfl ?_
        exact ⟨_, rfl, cs.mt ⟨⟨o, ho, rfl⟩, ⟨u, hu1, rfl⟩⟩ (by rw [cl o (by omega), cl u (by omega)]; exact (b01_f (Int32.not_lt.mpr c33)).symm), R1, S1⟩
      · skip
        refine V_iconst (v := 1) d_fe_holds_36 (by decide) ?_
        refine V_goto d_fe_holds_37 ?_
        refine V_ireturn d_fe_holds_41 rfl ?_
        exact ⟨_, rfl, cs.mt ⟨⟨o, ho, rfl⟩, ⟨u, hu1, rfl⟩⟩ (by rw [cl o (by omega), cl u (by omega)]; exact (b01_t (Int32.not_le.mp c33)).symm), R1, S1⟩
    · skip
      refine V_bipush (v := -2) d_fe_holds_16 (by decide) ?_
      refine V_ireturn d_fe_holds_18 rfl ?_
      exact ⟨_, rfl, cs.mf (fun q => b01_e c13 q.2) rfl, R, Stq.rf _ _ _⟩
theorem hd_tm {s : Mem} {o f : Nat} (u : Int32) (hk : s.2 3 (8 * sh s o + f) = 1 ∨ s.2 3 (8 * sh s o + f) = 2) : tmI (rowF s o f) u (rowN s o f) = (if s.2 3 (8 * sh s o + f) = 1 ∧ s.2 10 (8 * o + f) = u then 1 else 0) + (if s.2 3 (8 * sh s o + f) = 2 then hdL s u (8 * o + f) (s.2 10 (8 * o + f)).toNatClampNeg else 0) := by
  have hL : ∀ n, tmI (fun i => s.2 11 (6 * (8 * o + f) + i)) u n = hdL s u (8 * o + f) n := by
    intro n
    induction n with
    | zero => rfl
    | succ n ih => rw [tmI, hdL, ih]
  rcases hk with e | e
  · have eN : rowN s o f = 1 := by unfold rowN rwN; rw [e]; rfl
    have eF : rowF s o f = fun _ => s.2 10 (8 * o + f) := by unfold rowF; funext i; unfold rwF; rw [e]; rfl
    rw [eN, eF, e]
    show (0 : Int32) + (if s.2 10 (8 * o + f) = u then 1 else 0) = (if (1 : Int32) = 1 ∧ s.2 10 (8 * o + f) = u then 1 else 0) + 0
    by_cases q : s.2 10 (8 * o + f) = u
    · rw [if_pos q, if_pos ⟨rfl, q⟩]; rfl
    · rw [if_neg q, if_neg (fun z => q z.2)]
  · have eN : rowN s o f = (s.2 10 (8 * o + f)).toNatClampNeg := by unfold rowN rwN; rw [e, if_pos rfl]
    have eF : rowF s o f = fun i => s.2 11 (6 * (8 * o + f) + i) := by unfold rowF; funext i; unfold rwF; rw [e, if_pos rfl]
    rw [eN, eF, e, hL, if_neg (fun z => absurd z.1 (by decide)), if_pos rfl, Int32.zero_add]
theorem lp_chd2 (G : Gk) {g : Gm} {h : Hp} {s : Mem} (R : RB g h s) (ivs : IvS s) (ivo : IvO s) (ivv : IvV s) {o : Nat} {u : Int32} (ho : o < nO s) (post : Option Value → Hp → Prop)
    (K : ∀ (l5 : Option Value), V G fe_holders post h 0 0 91 [some (.ref (g.2 2)), some (.int u), some (.int (hdO s u (o + 1))), some (.int (nI o)), some (.ref (g.2 (100 + sh s o))), l5] []) : ∀ (c f : Nat), f + c = nf s (sh s o) →
    V G fe_holders post h 0 0 42 [some (.ref (g.2 2)), some (.int u), some (.int (hdO s u o + hdF s u o f)), some (.int (nI o)), some (.ref (g.2 (100 + sh s o))), some (.int (nI f))] [] := by
  have X := R.1
  have n60 := ivo.2.1
  obtain ⟨es, hs⟩ := ivo.2.2 o ho
  have n8 := (ivs.2.2.1 _ hs).2
  obtain ⟨L, l1, l2, l3⟩ := R.2.1
  obtain ⟨T, t1, t2, t3⟩ := R.2.2.1
  obtain ⟨a, u1, u2, W, w1, w2, w3⟩ := t3 o ho
  obtain ⟨L2, m1, m2, m3⟩ := (l3 _ hs).2.2
  have hsh := (l3 _ hs).2.at ivs hs
  intro c
  induction c with
  | zero =>
    intro f hf
    obtain rfl : f = nf s (sh s o) := by omega
    refine V_iload d_fe_holders_42 rfl ?_
    refine V_aload d_fe_holders_44 rfl ?_
    refine V_getf d_fe_holders_46 fl_fe_120 hsh rfl ?_
    refine V_icmp_ge d_fe_holders_49 (fun c49 => ?_) (fun c49 => ?_)
    · skip
      exact K _
    · skip
      exact absurd (ltN c49 (by omega)) (by omega)
  | succ c ih =>
    intro f hf
    obtain ⟨af, x1, x2⟩ := m3 f (by omega)
    obtain ⟨ar, y1, y2⟩ := w3 f (by omega)
    refine V_iload d_fe_holders_42 rfl ?_
    refine V_aload d_fe_holders_44 rfl ?_
    refine V_getf d_fe_holders_46 fl_fe_120 hsh rfl ?_
    refine V_icmp_ge d_fe_holders_49 (fun c49 => ?_) (fun c49 => ?_)
    · skip
      exact absurd (geN c49 (by omega)) (by omega)
    · skip
      refine V_aload d_fe_holders_52 rfl ?_
      refine V_getf d_fe_holders_54 fl_fe_144 hsh rfl ?_
      refine V_iload d_fe_holders_57 rfl ?_
      refine V_aald f d_fe_holders_59 m2.1 (by decide) (by decide) rfl (by omega) x1 ?_
      refine V_callV (N := fd_leads) d_fe_holders_60 ml_fe_166 mdf_fd_leads wi_fd_leads wz_fd_leads (sp_fd_leads G x2.1) x2.1 ⟨_, rfl, rfl⟩ rfl rfl (by decide) (by decide) (Nat.le_of_ble_eq_true rfl) rfl rfl (kI fun r60 h60 ⟨e60, f60⟩ => ?_)
      subst e60 f60
      refine V_if_eq d_fe_holders_63 (fun c63 => ?_) (fun c63 => ?_)
      · skip
        refine V_iinc (v := _) d_fe_holders_85 rfl rfl (by decide) rfl rfl ?_
        dsimp only [List.set]
        refine V_goto d_fe_holders_88 ?_
        rw [show Int32.ofInt 1 = 1 from rfl, nI_1]
        have e : hdF s u o (f + 1) = hdF s u o f := by rw [hdF, if_neg (fun z => b01_e c63 (Or.inl z.1)), if_neg (fun z => b01_e c63 (Or.inr z))]; exact Int32.add_zero _
        rw [← e]
        exact ih (f + 1) (by omega)
      · skip
        have hk := b01_ne c63
        refine V_iload_n d_fe_holders_66 rfl rfl ?_
        refine V_aload_n d_fe_holders_67 rfl rfl ?_
        refine V_getf d_fe_holders_68 fl_fe_17 (by first | assumption | exact X.1 | exact hu_self _ _ _ | (simp (disch := first | assumption | (apply Ne.symm; assumption)) only [hu_self, hu_ne]; assumption)) rfl ?_
        refine V_iload_n d_fe_holders_71 rfl rfl ?_
        refine V_aald o d_fe_holders_72 t2.1 (by decide) (by decide) rfl (by omega) u1 ?_
        refine V_getf d_fe_holders_73 fl_fe_140 u2.1 rfl ?_
        refine V_iload d_fe_holders_76 rfl ?_
        refine V_aald f d_fe_holders_78 w2.1 (by decide) (by decide) rfl (by omega) y1 ?_
        refine V_iload_n d_fe_holders_79 rfl rfl ?_
        refine V_callS (N := fe_timesIn) d_fe_holders_80 ml_fe_169 mdf_fe_timesIn ws_fe_timesIn (sp_fe_timesIn G u y2.1 (by have := (row_in ivv ho (by omega) hk).2; omega)) rfl rfl (by decide) (by decide) (Nat.le_of_ble_eq_true rfl) rfl rfl (kI fun r80 h80 ⟨e80, f80⟩ => ?_)
        subst e80 f80
        refine V_iadd d_fe_holders_83 ?_
        refine V_istore_n d_fe_holders_84 rfl (by decide) rfl rfl ?_
        dsimp only [List.set]
        refine V_iinc (v := _) d_fe_holders_85 rfl rfl (by decide) rfl rfl ?_
        dsimp only [List.set]
        refine V_goto d_fe_holders_88 ?_
        rw [show Int32.ofInt 1 = 1 from rfl, nI_1]
        have e : hdF s u o (f + 1) = hdF s u o f + tmI (rowF s o f) u (rowN s o f) := by rw [hdF, hd_tm u hk]
        rw [Int32.add_assoc, ← e]
        exact ih (f + 1) (by omega)
theorem lp_chd1 (G : Gk) {g : Gm} {h : Hp} {s : Mem} (R : RB g h s) (ivs : IvS s) (ivo : IvO s) (ivv : IvV s) {u : Int32} : ∀ (c o : Nat) (l4 l5 : Option Value), o + c = nO s →
    V G fe_holders (pI fun r h' => h = h' ∧ r = hdO s u (nO s)) h 0 0 15 [some (.ref (g.2 2)), some (.int u), some (.int (hdO s u o)), some (.int (nI o)), l4, l5] [] := by
  have X := R.1
  have n60 := ivo.2.1
  have n10 := ivs.2.1
  obtain ⟨L, l1, l2, l3⟩ := R.2.1
  obtain ⟨T, t1, t2, t3⟩ := R.2.2.1
  intro c
  induction c with
  | zero =>
    intro o l4 l5 hf
    obtain rfl : o = nO s := by omega
    refine V_iload_n d_fe_holders_15 rfl rfl ?_
    refine V_aload_n d_fe_holders_16 rfl rfl ?_
    refine V_getf d_fe_holders_17 fl_fe_134 (by first | assumption | exact X.1 | exact hu_self _ _ _ | (simp (disch := first | assumption | (apply Ne.symm; assumption)) only [hu_self, hu_ne]; assumption)) rfl ?_
    rw [ivo.1]
    refine V_icmp_ge d_fe_holders_20 (fun c20 => ?_) (fun c20 => ?_)
    · skip
      refine V_iload_n d_fe_holders_97 rfl rfl ?_
      refine V_ireturn d_fe_holders_98 rfl ?_
      exact ⟨_, rfl, rfl, rfl⟩
    · skip
      exact absurd (ltN c20 (by omega)) (by omega)
  | succ c ih =>
    intro o l4 l5 hf
    obtain ⟨a, u1, u2, W, w1, w2, w3⟩ := t3 o (by omega)
    obtain ⟨es, hs⟩ := ivo.2.2 o (by omega)
    refine V_iload_n d_fe_holders_15 rfl rfl ?_
    refine V_aload_n d_fe_holders_16 rfl rfl ?_
    refine V_getf d_fe_holders_17 fl_fe_134 (by first | assumption | exact X.1 | exact hu_self _ _ _ | (simp (disch := first | assumption | (apply Ne.symm; assumption)) only [hu_self, hu_ne]; assumption)) rfl ?_
    rw [ivo.1]
    refine V_icmp_ge d_fe_holders_20 (fun c20 => ?_) (fun c20 => ?_)
    · skip
      exact absurd (geN c20 (by omega)) (by omega)
    · skip
      refine V_aload_n d_fe_holders_23 rfl rfl ?_
      refine V_getf d_fe_holders_24 fl_fe_11 (by first | assumption | exact X.1 | exact hu_self _ _ _ | (simp (disch := first | assumption | (apply Ne.symm; assumption)) only [hu_self, hu_ne]; assumption)) rfl ?_
      refine V_aload_n d_fe_holders_27 rfl rfl ?_
      refine V_getf d_fe_holders_28 fl_fe_17 (by first | assumption | exact X.1 | exact hu_self _ _ _ | (simp (disch := first | assumption | (apply Ne.symm; assumption)) only [hu_self, hu_ne]; assumption)) rfl ?_
      refine V_iload_n d_fe_holders_31 rfl rfl ?_
      refine V_aald o d_fe_holders_32 t2.1 (by decide) (by decide) rfl (by omega) u1 ?_
      refine V_getf d_fe_holders_33 fl_fe_163 u2.1 rfl ?_
      refine V_aald (sh s o) d_fe_holders_36 l2.1 (by decide) (by decide) es (by omega) (l3 _ hs).1 ?_
      refine V_astore d_fe_holders_37 (by decide) rfl rfl ?_
      dsimp only [List.set]
      refine V_iconst (v := 0) d_fe_holders_39 (by decide) ?_
      refine V_istore d_fe_holders_40 (by decide) rfl rfl ?_
      dsimp only [List.set]
      have e0 : hdO s u o = hdO s u o + hdF s u o 0 := (Int32.add_zero _).symm
      rw [e0]
      refine lp_chd2 G R ivs ivo ivv (by omega) _ (fun l5 => ?_) (nf s (sh s o)) 0 (by omega)
      refine V_iinc d_fe_holders_91 rfl rfl (by decide) rfl rfl ?_
      dsimp only [List.set]
      refine V_goto d_fe_holders_94 ?_
      rw [show Int32.ofInt 1 = 1 from rfl, nI_1]
      exact ih (o + 1) _ _ (by omega)
theorem sp_fe_holders (G : Gk) {g : Gm} {h : Hp} {s : Mem} (R : RB g h s) (ivs : IvS s) (ivo : IvO s) (ivv : IvV s) (v : Int32) : Ct G fe_holders [.ref (g.2 2), .int v] h (pI fun r h' => h = h' ∧ cs (iO s v) (r = hdO s v (nO s)) (r = -2)) := by
  have X := R.1
  refine Ct.ofL (M := fe_holders) (lv := [some (.ref (g.2 2)), some (.int v), none, none, none, none]) mdf_fe_holders rfl (Nat.le_of_ble_eq_true rfl) rfl ?_
  refine V_aload_n d_fe_holders_0 rfl rfl ?_
  refine V_iload_n d_fe_holders_1 rfl rfl ?_
  refine V_callV (N := fe_isThing) d_fe_holders_2 ml_fe_160 mdf_fe_isThing wi_fe_isThing wz_fe_isThing (sp_fe_isThing G X ivo _) (by first | assumption | exact X.1 | exact hu_self _ _ _ | (simp (disch := first | assumption | (apply Ne.symm; assumption)) only [hu_self, hu_ne]; assumption)) ⟨_, rfl, rfl⟩ rfl rfl (by decide) (by decide) (Nat.le_of_ble_eq_true rfl) rfl rfl (kI fun r2 h2 ⟨e2, f2⟩ => ?_)
  subst e2 f2
  refine V_if_ne d_fe_holders_5 (fun c5 => ?_) (fun c5 => ?_)
  · skip
    refine V_iconst (v := 0) d_fe_holders_11 (by decide) ?_
    refine V_istore_n d_fe_holders_12 rfl (by decide) rfl rfl ?_
    dsimp only [List.set]
    refine V_iconst (v := 0) d_fe_holders_13 (by decide) ?_
    refine V_istore_n d_fe_holders_14 rfl (by decide) rfl rfl ?_
    dsimp only [List.set]
    exact (lp_chd1 G R ivs ivo ivv (nO s) 0 none none (by omega)).mono (fun v' h' ⟨r, e, z1, z2⟩ => ⟨r, e, z1, cs.mt (b01_ne c5) z2⟩)
  · skip
    refine V_bipush (v := -2) d_fe_holders_8 (by decide) ?_
    refine V_ireturn d_fe_holders_10 rfl ?_
    exact ⟨_, rfl, rfl, cs.mf (b01_e c5) rfl⟩
