/-! sort, begin, commit -/
theorem wgt_sc {s t : Mem} (c : Sc s t) (o b : Nat) : wgt t o b = wgt s o b := wgt_congr (c.2 2 rfl) (c.2 3 rfl) (c.2 4 rfl) (c.2 5 rfl) (c.2 6 rfl) (c.2 9 rfl) (c.2 10 rfl) (c.2 11 rfl) o b
theorem sp_fe_sort (G : Gk) {g : Gm} {h : Hp} {s : Mem} (R : RC G g h s) (iv : Ivs s) (v1 v2 v fl : Int32) : Ct G fe_sort [.ref (g.2 2), .int v1, .int v2, .int v, .int fl] h (pI fun r h' => ∀ r' t, R_srt s v1 v2 v fl r' t → r = r' ∧ Nc G g h h' t) := by
  obtain ⟨hm, ivs, ivo, ivf, ivv, ivt, ivw, ivh, ivx, h512⟩ := iv
  have X := R.1.1
  have n60 := ivo.2.1
  have n10 := ivs.2.1
  obtain ⟨T, t1, t2, t3⟩ := R.1.2.2.1
  refine Ct.ofL (M := fe_sort) (lv := [some (.ref (g.2 2)), some (.int v1), some (.int v2), some (.int v), some (.int fl), none]) mdf_fe_sort rfl (Nat.le_of_ble_eq_true rfl) rfl ?_
  refine V_aload_n d_fe_sort_0 rfl rfl ?_
  refine V_iload_n d_fe_sort_1 rfl rfl ?_
  refine V_iload_n d_fe_sort_2 rfl rfl ?_
  refine V_callV (N := fe_fieldOf) d_fe_sort_3 ml_fe_152 mdf_fe_fieldOf wi_fe_fieldOf wz_fe_fieldOf (sp_fe_fieldOf G R.1 ivs ivo v1 v2) (by first | assumption | exact X.1 | exact hu_self _ _ _ | (simp (disch := first | assumption | (apply Ne.symm; assumption)) only [hu_self, hu_ne]; assumption)) ⟨_, rfl, rfl⟩ rfl rfl (by decide) (by decide) (Nat.le_of_ble_eq_true rfl) rfl rfl (kQ fun r3 h3 ⟨e3, z3⟩ => ?_)
  subst e3
  rcases z3 with ⟨no, rfl⟩ | ⟨o, f, c, ho, rfl, hf, rfl, im, rfl⟩
  · skip
    refine V_astoreN d_fe_sort_6 (by decide) rfl rfl ?_
    dsimp only [List.set]
    refine V_aloadN d_fe_sort_8 rfl ?_
    refine V_ifnonnullN d_fe_sort_10 ?_
    refine V_bipush (v := -2) d_fe_sort_13 (by decide) ?_
    refine V_ireturn d_fe_sort_15 rfl ?_
    refine ⟨_, rfl, fun r' t hR => ?_⟩
    obtain ⟨w1, w2⟩ := hR.f no
    exact ⟨w1.symm, Nc.rf R w2⟩
  · skip
    refine V_astore d_fe_sort_6 (by decide) rfl rfl ?_
    dsimp only [List.set]
    refine V_aload d_fe_sort_8 rfl ?_
    refine V_ifnonnull d_fe_sort_10 ?_
    have n8 := (ivs.2.2.1 _ (ivo.2.2 o ho).2).2
    have hR0 : ∀ r' t, R_srt s (nI o) (nI f) v fl r' t → _ := fun r' t (hR : R_srt s (nI o) (nI f) v fl r' t) => by unfold R_srt at hR; rw [cl o (by omega), cl f (by omega)] at hR; exact hR.t (hasF_i ho hf)
    refine V_aload d_fe_sort_16 rfl ?_
    refine V_getf d_fe_sort_18 fl_fe_109 im.1 rfl ?_
    refine V_iconst (v := 2) d_fe_sort_21 (by decide) ?_
    refine V_icmp_eq d_fe_sort_22 (fun c22 => ?_) (fun c22 => ?_)
    · skip
      refine V_iload_n d_fe_sort_28 rfl rfl ?_
      refine V_if_lt d_fe_sort_29 (fun c29 => ?_) (fun c29 => ?_)
      · skip
        refine V_bipush (v := -8) d_fe_sort_38 (by decide) ?_
        refine V_ireturn d_fe_sort_40 rfl ?_
        refine ⟨_, rfl, fun r' t hR => ?_⟩
        obtain ⟨w1, w2⟩ := ((hR0 r' t hR).f (fun q => q c22)).t (fun i hi e => by subst e; exact nI_pos (by omega) c29)
        exact ⟨w1.symm, Nc.rf R w2⟩
      · skip
        refine V_iload_n d_fe_sort_32 rfl rfl ?_
        refine V_bipush (v := 8) d_fe_sort_33 (by decide) ?_
        refine V_icmp_lt d_fe_sort_35 (fun c35 => ?_) (fun c35 => ?_)
        · skip
          obtain ⟨b, hb, rfl⟩ := ix_lt (n := 8) c29 (Int32.not_le.mpr c35) (by omega)
          obtain ⟨tt, u1, u2, W, x1, x2, x3⟩ := t3 o ho
          obtain ⟨ar, y1, y2⟩ := x3 f hf
          obtain ⟨len, l6, l1, l2, l3, l4, l5⟩ := row2 ivv ho hf c22
          rw [l3, l4] at y2
          refine V.need (cr := (0 + 5) + 2) (sr := (0 + 1620) + 12) ?_ (by decide) (by decide)
          refine V_aload_n d_fe_sort_41 rfl rfl ?_
          refine V_iload_n d_fe_sort_42 rfl rfl ?_
          refine V_iload_n d_fe_sort_43 rfl rfl ?_
          refine V_aload_n d_fe_sort_44 rfl rfl ?_
          refine V_aload_n d_fe_sort_45 rfl rfl ?_
          refine V_getf d_fe_sort_46 fl_fe_17 (by first | assumption | exact X.1 | exact hu_self _ _ _ | (simp (disch := first | assumption | (apply Ne.symm; assumption)) only [hu_self, hu_ne]; assumption)) rfl ?_
          refine V_iload_n d_fe_sort_49 rfl rfl ?_
          refine V_aald o d_fe_sort_50 t2.1 (by decide) (by decide) rfl (by omega) u1 ?_
          refine V_getf d_fe_sort_51 fl_fe_140 u2.1 rfl ?_
          refine V_iload_n d_fe_sort_54 rfl rfl ?_
          refine V_aald f d_fe_sort_55 x2.1 (by decide) (by decide) rfl (by omega) y1 ?_
          refine V_iload_n d_fe_sort_56 rfl rfl ?_
          refine V_iload d_fe_sort_57 rfl ?_
          refine V_callV (N := fe_inOrder) d_fe_sort_59 ml_fe_251 mdf_fe_inOrder wi_fe_inOrder wz_fe_inOrder (sp_fe_inOrder G R.1 hm ivs ivo ivf ivv ivt y2 l6 l5 hb fl) (by first | assumption | exact X.1 | exact hu_self _ _ _ | (simp (disch := first | assumption | (apply Ne.symm; assumption)) only [hu_self, hu_ne]; assumption)) ⟨_, rfl, rfl⟩ rfl rfl (by decide) (by decide) (Nat.le_of_ble_eq_true rfl) rfl rfl (kR fun q59 h59 ⟨g', w, R2, hw, i2, S2, ex⟩ => ?_)
          have RC2 : RC G g' h59 s := ⟨R2, R.2.mv S2 (fun r hr => by unfold nSo nSc; omega) (ObE.rf s) ⟨fun _ _ => rfl, fun _ _ => rfl⟩⟩
          rw [← ex]
          refine V_callV (N := fe_take) d_fe_sort_62 ml_fe_228 mdf_fe_take wi_fe_take wz_fe_take (sp_fe_take G RC2 hm ivs ivo ivw ivf ivv ivh ivx h512 ho hf (by rw [c22]; decide) ⟨fun e => by rw [c22] at e; exact absurd e (by decide), fun e => by rw [c22] at e; exact absurd e (by decide), fun _ => l6⟩ i2) R2.1.1 ⟨_, rfl, rfl⟩ rfl rfl (by decide) (by decide) (Nat.le_of_ble_eq_true rfl) rfl rfl (kI fun r62 h62 ⟨e62, p62⟩ => ?_)
          refine V_ireturn d_fe_sort_65 rfl ?_
          refine ⟨_, rfl, fun r' t hR => ?_⟩
          obtain ⟨w1, s', w2, w3⟩ := ((hR0 r' t hR).f (fun q => q c22)).f (fun q => q b (by omega) rfl)
          rw [l2, cl b (by omega)] at w3
          have es' : sh s' = sh s := by funext x; unfold sh; rw [w2.2 9 rfl]
          have tk := SrtE.tk (w := w) (by rw [es', w2.2 3 rfl]; exact c22) l6 (by rw [w2.2 10 rfl]; exact l1) (fun k hk => by rw [w2.2 11 rfl, wgt_sc w2]; exact hw k hk) w3
          rw [w2.2 11 rfl] at tk
          exact ⟨by rw [e62, w1], Nc.tr (S2.mo (fun r hr => by unfold nSo nSc; omega)) ex (p62 s' t w2 tk)⟩
        · skip
          refine V_bipush (v := -8) d_fe_sort_38 (by decide) ?_
          refine V_ireturn d_fe_sort_40 rfl ?_
          refine ⟨_, rfl, fun r' t hR => ?_⟩
          obtain ⟨w1, w2⟩ := ((hR0 r' t hR).f (fun q => q c22)).t (fun i hi e => by subst e; exact c35 (nI_lt (b := 8) (by omega) (by omega)))
          exact ⟨w1.symm, Nc.rf R w2⟩
    · skip
      refine V_bipush (v := -6) d_fe_sort_25 (by decide) ?_
      refine V_ireturn d_fe_sort_27 rfl ?_
      refine ⟨_, rfl, fun r' t hR => ?_⟩
      obtain ⟨w1, w2⟩ := (hR0 r' t hR).t c22
      exact ⟨w1.symm, Nc.rf R w2⟩
theorem PZ.st8 {g g' : Gm} {h h' : Hp} {D : Nat → Prop} (H : PZ g h) (S : Stq g h D g' h') (hd : ∀ r, 7 ≤ r → r ≤ 21 → r ≠ 8 → D r) : PZ g' h' := by
  obtain ⟨q1, ⟨b, q2⟩, ⟨P, q3⟩, q4, q5⟩ := H
  exact ⟨q1.st S (hd _ (by omega) (by omega) (by omega)), ⟨b, q2.st S (hd _ (by omega) (by omega) (by omega)) (hd _ (by omega) (by omega) (by omega)) (hd _ (by omega) (by omega) (by omega))⟩, ⟨P, q3.st S (hd _ (by omega) (by omega) (by omega)) (hd _ (by omega) (by omega) (by omega)) (hd _ (by omega) (by omega) (by omega)) (hd _ (by omega) (by omega) (by omega))⟩, q4.st S (hd _ (by omega) (by omega) (by omega)) (hd _ (by omega) (by omega) (by omega)) (hd _ (by omega) (by omega) (by omega)), q5.st S (hd _ (by omega) (by omega) (by omega)) (hd _ (by omega) (by omega) (by omega)) (hd _ (by omega) (by omega) (by omega))⟩
theorem RB.st8 {g g' : Gm} {h h' : Hp} {s : Mem} {D : Nat → Prop} (R : RB g h s) (hm : Sm s) (S : Stq g h D g' h') (hd : ∀ r, (1 ≤ r ∧ r < 22 ∧ r ≠ 8) ∨ (100 ≤ r ∧ r < 1100) → D r) (h8 : g'.2 8 = g.2 8) : RB g' h' s := by
  obtain ⟨RX, RS, RO, RP, RW, RZ⟩ := R
  exact ⟨RX.st S (hd _ (by omega)) (fun r h1 h2 => by by_cases e : r = 8; (rw [e]; exact h8); exact S.2 r (hd r (by omega))), RS.st hm.1 S (hd _ (by omega)) (hd _ (by omega)) (fun r _ _ => hd r (by omega)), RO.st hm.2.1 S (hd _ (by omega)) (hd _ (by omega)) (fun r _ _ => hd r (by omega)), RP.st hm.2.2.1 S (hd _ (by omega)) (fun r _ _ => hd r (by omega)), RW.st hm.2.2.2 S (hd _ (by omega)) (fun r _ _ => hd r (by omega)), RZ.st8 S (fun r _ _ _ => hd r (by omega))⟩
def R_beg (s : Mem) (r : Int32) (t : Mem) : Prop := cs (s.1 23 ≠ 0) (No s (-3) r t) (r = 1 ∧ t = mF (mF s 23 1) 24 (nI (dEnd s)))
theorem sp_fe_begin (G : Gk) {g : Gm} {h : Hp} {s : Mem} (R : RC G g h s) (iv : Ivs s) : Ct G fe_begin [.ref (g.2 2)] h (pI fun r h' => ∀ r' t, R_beg s r' t → r = r' ∧ Nc G g h h' t) := by
  obtain ⟨hm, ivs, ivo, ivf, ivv, ivt, ivw, ivh, ivx, h512⟩ := iv
  have X := R.1.1
  obtain ⟨hz, dn, un, v, q1, q2, q3, q4, q5, q6, q7, q8⟩ := R.2
  rcases q8 with ⟨z1, rfl⟩ | ⟨z1, x, es, rfl, y2, y3, y4, y5⟩
  · skip
    refine Ct.ofL (M := fe_begin) (lv := [some (.ref (g.2 2))]) mdf_fe_begin rfl (Nat.le_of_ble_eq_true rfl) rfl ?_
    refine V_aload_n d_fe_begin_0 rfl rfl ?_
    refine V_getf d_fe_begin_1 fl_fe_36 (by first | assumption | exact X.1 | exact hu_self _ _ _ | (simp (disch := first | assumption | (apply Ne.symm; assumption)) only [hu_self, hu_ne]; assumption)) rfl ?_
    refine V_getf d_fe_begin_4 fl_fe_255 q1.1 rfl ?_
    refine V_ifnullN d_fe_begin_7 ?_
    refine V_aload_n d_fe_begin_13 rfl rfl ?_
    refine V_getf d_fe_begin_14 fl_fe_36 (by first | assumption | exact X.1 | exact hu_self _ _ _ | (simp (disch := first | assumption | (apply Ne.symm; assumption)) only [hu_self, hu_ne]; assumption)) rfl ?_
    refine V.need (cr := (0 + 1) + 1) (sr := (0 + 3) + 1) ?_ (by decide) (by decide)
    refine V_new (M := fe_begin) d_fe_begin_17 nw_fe_259 (fun q17 hq17 => ?_)
    refine V_dup d_fe_begin_20 rfl ?_
    refine V_callN (N := gr_init) d_fe_begin_21 ml_fe_261 mdf_gr_init wi_gr_init rfl rfl (sp_gr_init G (hz.1.put _ hq17) (hu_self _ _ _)) rfl rfl (by decide) (by decide) (Nat.le_of_ble_eq_true rfl) rfl rfl (kN fun h21 ⟨q, hq, e21⟩ => ?_)
    have nqq : q17 ≠ q := fun z => by rw [← z, hu_self] at hq; cases hq
    rw [hu_ne _ _ (Ne.symm nqq)] at hq
    have e21' : h21 = hu (hu h q (0, [.int 0, .ref G.2.2.1, .int 0])) q17 (3, [.ref q]) := by rw [e21]; funext z; unfold hu; split; rfl; split; rfl; rfl
    subst e21'
    have S1 := Stq.fresh (g := g) hq 26 (0, [.int 0, .ref G.2.2.1, .int 0])
    have hq17' : hu h q (0, [.int 0, .ref G.2.2.1, .int 0]) q17 = none := by rw [hu_ne _ _ nqq]; exact hq17
    have S2 : Stq (ug g q 26) (hu h q (0, [.int 0, .ref G.2.2.1, .int 0])) (fun _ => True) (ui (ug g q 26) q17) (hu (hu h q (0, [.int 0, .ref G.2.2.1, .int 0])) q17 (3, [.ref q])) := Stq.freshI hq17' _ _
    have C26 := (Cl.fresh g h q 26 (0, [.int 0, .ref G.2.2.1, .int 0])).st S2 trivial
    have I17 := Im.fresh (ug g q 26) (hu h q (0, [.int 0, .ref G.2.2.1, .int 0])) q17 (3, [.ref q])
    have Sa : Stq g h (fun r => r ≠ 26) (ui (ug g q 26) q17) (hu (hu h q (0, [.int 0, .ref G.2.2.1, .int 0])) q17 (3, [.ref q])) := S1.tr (S2.mo (fun _ _ => trivial))
    have C8 := q1.st Sa (by omega)
    have g2 : ∀ r, r ≠ 26 → (ui (ug g q 26) q17).2 r = g.2 r := fun r hr => ug_2n _ _ hr
    have g26 : (ui (ug g q 26) q17).2 26 = q := show (ug g q 26).2 26 = q from ug_2 g q 26
    have S3 := Stq.put (h := hu (hu h q (0, [.int 0, .ref G.2.2.1, .int 0])) q17 (3, [.ref q])) C8.2 (4, [.ref (g.2 22), .ref (g.2 24), .ref q17])
    have C8' := Cl.put (h := hu (hu h q (0, [.int 0, .ref G.2.2.1, .int 0])) q17 (3, [.ref q])) C8.2 (4, [.ref (g.2 22), .ref (g.2 24), .ref q17])
    rw [g2 8 (by omega)] at S3 C8'
    have h8 : hu (hu h q (0, [.int 0, .ref G.2.2.1, .int 0])) q17 (3, [.ref q]) (g.2 8) = some (4, [.ref (g.2 22), .ref (g.2 24), .null]) := by have := C8.1; rw [g2 8 (by omega)] at this; exact this
    refine V_putf d_fe_begin_24 fp_fe_255 rfl rfl h8 ?_
    refine V_iconst (v := 1) d_fe_begin_27 (by decide) ?_
    refine V_ireturn d_fe_begin_28 rfl ?_
    refine ⟨_, rfl, fun r' t hR => ?_⟩
    obtain ⟨w1, rfl⟩ := hR.f (fun z => z z1)
    have Sb : Stq g h (fun r => r ≠ 26 ∧ r ≠ 8) (ui (ug g q 26) q17) (hu (hu (hu h q (0, [.int 0, .ref G.2.2.1, .int 0])) q17 (3, [.ref q])) (g.2 8) (4, [.ref (g.2 22), .ref (g.2 24), .ref q17])) := (Sa.mo (fun r hr => hr.1)).tr (S3.mo (fun r hr => hr.2))
    have e1 : ∀ q, q ≠ 23 → q ≠ 24 → (mF (mF s 23 1) 24 (nI (dEnd s))).1 q = s.1 q := fun q a b => by rw [mF_1n _ _ b, mF_1n _ _ a]
    have e2 : (mF (mF s 23 1) 24 (nI (dEnd s))).2 = s.2 := rfl
    have hco : CoB s (mF (mF s 23 1) 24 (nI (dEnd s))) := ⟨fun q hq => e1 q (by unfold coF at hq; simp only [Bool.or_eq_true, beq_iff_eq] at hq; omega) (by unfold coF at hq; simp only [Bool.or_eq_true, beq_iff_eq] at hq; omega), fun q _ => rfl⟩
    have hO : ObE s (mF (mF s 23 1) 24 (nI (dEnd s))) := ObE.of (e1 8 (by omega) (by omega)) rfl rfl rfl
    have eD : nD (mF (mF s 23 1) 24 (nI (dEnd s))) = nD s := by unfold nD; rw [e1 21 (by omega) (by omega)]
    have eE : nEn (mF (mF s 23 1) 24 (nI (dEnd s))) = nEn s := by unfold nEn; rw [e1 20 (by omega) (by omega)]
    have enE : nE (mF (mF s 23 1) 24 (nI (dEnd s))) = nE s := by unfold nE; rw [e1 16 (by omega) (by omega)]
    have hdE : dEnd s < 1000 := by have h690 := ivh.2.2.2.2.2.2.1; unfold dEnd; split; omega; have := (ivh.2.2.2.2.2.2.2.1 (nD s - 1) (by have := ivh.2.2.2.1; omega)).2; omega
    have eG : gF (mF (mF s 23 1) 24 (nI (dEnd s))) = dEnd s := by unfold gF; rw [mF_1s]; exact cl _ (by omega)
    have egs : gsz (mF (mF s 23 1) 24 (nI (dEnd s))) = 0 := by have hU : gsz (mF (mF s 23 1) 24 (nI (dEnd s))) = if gF (mF (mF s 23 1) 24 (nI (dEnd s))) < nE (mF (mF s 23 1) 24 (nI (dEnd s))) ∧ nEn (mF (mF s 23 1) 24 (nI (dEnd s))) = nD (mF (mF s 23 1) 24 (nI (dEnd s))) then nE (mF (mF s 23 1) 24 (nI (dEnd s))) - gF (mF (mF s 23 1) 24 (nI (dEnd s))) else 0 := rfl; rw [hU, eG, enE, eE, eD, if_neg (fun z => by have := ivx.1 z1; rw [z.2] at this; rw [this, dEnd_B] at z; omega)]
    refine ⟨w1.symm, ui (ug g q 26) q17, ⟨(R.1.st8 hm Sb (fun r hr => by omega) (g2 8 (by omega))).co hco, hz.st Sb (by omega), dn, un, .ref q17, ?_, q2.st Sb (by omega) (by omega), q3.st Sb (by omega) (by omega), by rw [eD]; exact q4, by rw [eD, eE]; exact q5, fun k x hx => ?_, fun j x hx => ?_, ?_⟩, Sb.mo (fun r hr => by omega), g2 2 (by omega)⟩
    · (rw [g2 22 (by omega), g2 24 (by omega)]; exact C8')
    · (have een : en (mF (mF s 23 1) 24 (nI (dEnd s))) = en s := rfl; exact (q6 k x hx).mv Sb (by omega) hO rfl (fun i _ => ⟨rfl, fun _ _ => ⟨rfl, rfl⟩⟩))
    · (rw [eE]; exact (q7 j x hx).mv Sb (by omega) hO rfl (fun i _ => ⟨rfl, fun _ _ => ⟨rfl, rfl⟩⟩))
    · (refine Or.inr ⟨by rw [mF_1n _ _ (by omega), mF_1s]; decide, q17, [], rfl, ?_, ⟨G.2.2.1, 0, 0, ?_, Nat.le_refl _, by decide, Or.inr ⟨rfl, rfl⟩⟩, by rw [egs]; rfl, fun i y hy => by simp at hy⟩; (rw [g26]; exact I17.st S3 (by omega)); exact C26.st S3 (by omega))
  · skip
    refine Ct.ofL (M := fe_begin) (lv := [some (.ref (g.2 2))]) mdf_fe_begin rfl (Nat.le_of_ble_eq_true rfl) rfl ?_
    refine V_aload_n d_fe_begin_0 rfl rfl ?_
    refine V_getf d_fe_begin_1 fl_fe_36 (by first | assumption | exact X.1 | exact hu_self _ _ _ | (simp (disch := first | assumption | (apply Ne.symm; assumption)) only [hu_self, hu_ne]; assumption)) rfl ?_
    refine V_getf d_fe_begin_4 fl_fe_255 q1.1 rfl ?_
    refine V_ifnull d_fe_begin_7 ?_
    refine V_bipush (v := -3) d_fe_begin_10 (by decide) ?_
    refine V_ireturn d_fe_begin_12 rfl ?_
    refine ⟨_, rfl, fun r' t hR => ?_⟩
    obtain ⟨w1, w2⟩ := hR.t z1
    exact ⟨w1.symm, Nc.rf R w2⟩
