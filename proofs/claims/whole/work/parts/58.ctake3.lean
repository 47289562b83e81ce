/-! take -/
theorem Sc.nEp {s t : Mem} (c : Sc s t) : nE' t = nE' s := by
  unfold nE' dEnd nD nEn nE en
  rw [c.1 21 rfl, c.1 20 rfl, c.1 16 rfl, c.2 22 rfl]
theorem PutR.sc {s s' t : Mem} {o f n : Nat} {F : Nat → Int32} (c : Sc s s') (H : PutR s' o f n F t) : PutR s o f n F t := by
  obtain ⟨P1, P2, P3, P4, P5, P6⟩ := H
  have cc := c.co
  have e3 : s'.2 3 = s.2 3 := c.2 3 rfl
  have es : sh s' = sh s := by funext x; unfold sh; rw [c.2 9 rfl]
  rw [e3, es] at P5 P6
  exact ⟨fun q hq => (P1 q hq).trans (cc.1 q hq), fun q hq a b => (P2 q hq a b).trans (cc.2 q hq), fun x hx => by rw [P3 x hx, c.2 10 rfl], fun x hx => by rw [P4 x hx, c.2 11 rfl], P5, P6⟩
theorem TkH.sc {s s' t : Mem} {o f n : Nat} {F : Nat → Int32} (c : Sc s s') (H : TkH s' o f n F t) : TkH s o f n F t := by
  unfold TkH at *
  have es : sh s' = sh s := by funext x; unfold sh; rw [c.2 9 rfl]
  have eD : nD s' = nD s := by unfold nD; rw [c.1 21 rfl]
  rw [c.nEp, eD, c.1 21 rfl, c.1 23 rfl, c.1 24 rfl, c.2 22 rfl, c.2 17 rfl, c.2 18 rfl, c.2 19 rfl, c.2 10 rfl, c.2 11 rfl, c.2 3 rfl, es] at H
  exact H
theorem TkE.out' {s s' t : Mem} {o f n : Nat} {F : Nat → Int32} (ivh : IvH s) (hE : nE' s < 1000) (c : Sc s s') (H : TkE s' o f n F t) : ∃ t1 t2, PutR s o f n F t1 ∧ NoteE t1 o f (s.2 10 (8 * o + f)) (nW s) t2 ∧ TkH s o f n F (mF t2 16 (nI (nE' s + 1))) ∧ ((s.1 23 ≠ 0 ∧ t = mF t2 16 (nI (nE' s + 1))) ∨ (s.1 23 = 0 ∧ EntE (mF t2 16 (nI (nE' s + 1))) t)) := by
  have ivh' : IvH s' := by
    unfold IvH nE nEn nD en at *
    rw [c.1 16 rfl, c.1 20 rfl, c.1 21 rfl, c.1 23 rfl, c.2 22 rfl]
    exact ivh
  obtain ⟨t1, t2, a, b, d, e⟩ := H.out ivh' (by rw [c.nEp]; exact hE)
  have eW : nW s' = nW s := by unfold nW; rw [c.1 25 rfl]
  refine ⟨t1, t2, a.sc c, by rw [c.2 10 rfl, eW] at b; exact b, ?_, by rw [c.1 23 rfl, c.nEp] at e; exact e⟩
  have := d.sc c
  rw [c.nEp] at this
  exact this
theorem NoteE.co {t1 t2 : Mem} {o f k : Nat} {a : Int32} (H : NoteE t1 o f a k t2) : t2.1 = t1.1 ∧ ∀ q, q ≠ 30 → q ≠ 31 → t2.2 q = t1.2 q := ⟨H.1, H.2.1⟩
theorem ObE.of {s t : Mem} (h8 : t.1 8 = s.1 8) (h2 : t.2 2 = s.2 2) (h3 : t.2 3 = s.2 3) (h9 : t.2 9 = s.2 9) : ObE s t := fun o ho =>
  ⟨by unfold nO; rw [h8]; exact ho, by unfold sh; rw [h9], fun f hf => ⟨by unfold nf; rw [h2]; exact hf, by rw [h3]⟩⟩
theorem EntE.co {s t : Mem} (H : EntE s t) : CoB s t := by
  obtain ⟨g0, n0, _, _, _, _, eF, eA, _⟩ := H
  refine ⟨fun q hq => eF q ?_ ?_ ?_, fun q hq => eA q ?_ ?_ ?_ ?_⟩ <;> · (first | (unfold coF at hq; simp only [Bool.or_eq_true, beq_iff_eq] at hq; omega) | (unfold coA at hq; simp only [Bool.or_eq_true, decide_eq_true_eq] at hq; omega))
theorem mF16.co (t : Mem) (v : Int32) : CoB t (mF t 16 v) := ⟨fun q hq => mF_1n _ _ (by unfold coF at hq; simp only [Bool.or_eq_true, beq_iff_eq] at hq; omega), fun q _ => by rw [mF_2]⟩
theorem CoB.tr {a b c : Mem} (h1 : CoB a b) (h2 : CoB b c) : CoB a c := ⟨fun q hq => (h2.1 q hq).trans (h1.1 q hq), fun q hq => (h2.2 q hq).trans (h1.2 q hq)⟩
theorem sp_fe_take (G : Gk) {g : Gm} {h : Hp} {s : Mem} (R : RC G g h s) (hm : Sm s) (ivs : IvS s) (ivo : IvO s) (ivw : IvW s) (ivf : IvF s) (ivv : IvV s) (ivh : IvH s) (ivx : IvX s) (h512 : gsz s < 512) {o f n ra : Nat} {F : Nat → Int32} (ho : o < nO s) (hf : f < nf s (sh s o)) (hk : s.2 3 (8 * sh s o + f) ≠ 3) (hn : LnOK s o f n) (ir : Im g h ra (20, arrL n F)) :
    Ct G fe_take [.ref (g.2 2), .int (nI o), .int (nI f), .ref ra] h (pI fun r h' => r = 1 ∧ ∀ s' t, Sc s s' → TkE s' o f n F t → Nc G g h h' t) := by
  obtain ⟨RB0, H0⟩ := R
  have X := RB0.1
  obtain ⟨T, t1, t2, t3⟩ := RB0.2.2.1
  obtain ⟨tt, u1, u2, W, w1, w2, w3⟩ := t3 o ho
  obtain ⟨ar, y1, y2⟩ := w3 f hf
  have n60 := ivo.2.1
  have n8 := (ivs.2.2.1 _ (ivo.2.2 o ho).2).2
  obtain ⟨_, _, v8, c8, _⟩ := H0.2
  have D60 : nD s ≤ 60 := by have := ivh.2.2.2.1; have := ivh.2.2.2.2.1; omega
  have hE : nE' s < 1000 := by
    have h690 := ivh.2.2.2.2.2.2.1
    unfold nE'
    split
    · unfold dEnd
      split
      · omega
      · have := (ivh.2.2.2.2.2.2.2.1 (nD s - 1) (by omega)).2; omega
    · omega
  refine Ct.ofL (M := fe_take) (lv := [some (.ref (g.2 2)), some (.int (nI o)), some (.int (nI f)), some (.ref ra)]) mdf_fe_take rfl (Nat.le_of_ble_eq_true rfl) rfl ?_
  refine V_aload_n d_fe_take_0 rfl rfl ?_
  refine V_getf d_fe_take_1 fl_fe_36 (by first | assumption | exact X.1 | exact hu_self _ _ _ | (simp (disch := first | assumption | (apply Ne.symm; assumption)) only [hu_self, hu_ne]; assumption)) rfl ?_
  refine V_callV (N := hi_hasRoom) d_fe_take_4 ml_fe_333 mdf_hi_hasRoom wi_hi_hasRoom wz_hi_hasRoom (sp_hi_hasRoom G H0 h512) c8.1 ⟨_, rfl, rfl⟩ rfl rfl (by decide) (by decide) (Nat.le_of_ble_eq_true rfl) rfl rfl (kI fun r4 h4 ⟨e4, f4⟩ => ?_)
  subst e4 f4
  refine V_if_ne d_fe_take_7 (fun c7 => ?_) (fun c7 => ?_)
  · skip
    refine V_aload_n d_fe_take_13 rfl rfl ?_
    refine V_getf d_fe_take_14 fl_fe_36 (by first | assumption | exact X.1 | exact hu_self _ _ _ | (simp (disch := first | assumption | (apply Ne.symm; assumption)) only [hu_self, hu_ne]; assumption)) rfl ?_
    refine V.need (cr := (0 + 4) + 1) (sr := (0 + 1610) + 4) ?_ (by decide) (by decide)
    refine V_new (M := fe_take) d_fe_take_17 nw_fe_336 (fun q17 hq17 => ?_)
    have S1 : Stq g h (fun _ => True) (ui g q17) (hu h q17 (1, dfl 1)) := Stq.freshI hq17 _ _
    have nX := fne X.1 hq17
    refine V_dup d_fe_take_20 rfl ?_
    refine V_iload_n d_fe_take_21 rfl rfl ?_
    refine V_iload_n d_fe_take_22 rfl rfl ?_
    refine V_aload_n d_fe_take_23 rfl rfl ?_
    refine V_getf d_fe_take_24 fl_fe_17 (by rw [hu_ne _ _ nX]; exact X.1) rfl ?_
    refine V_iload_n d_fe_take_27 rfl rfl ?_
    refine V_aald o d_fe_take_28 (t2.st S1 trivial).1 (by decide) (by decide) rfl (by omega) u1 ?_
    refine V_getf d_fe_take_29 fl_fe_140 (u2.st S1 trivial).1 rfl ?_
    refine V_iload_n d_fe_take_32 rfl rfl ?_
    refine V_aald f d_fe_take_33 (w2.st S1 trivial).1 (by decide) (by decide) rfl (by omega) y1 ?_
    refine V_aload_n d_fe_take_34 rfl rfl ?_
    refine V_callI (N := ed_init) d_fe_take_35 ml_fe_338 mdf_ed_init wi_ed_init rfl rfl (sp_ed_init G (hu_self _ _ _) (nI o) (nI f)) rfl rfl (by decide) (by decide) (Nat.le_of_ble_eq_true rfl) rfl rfl (kN fun h35 e35 => ?_)
    subst e35
    rw [hu_hu]
    have S2 : Stq g h (fun _ => True) (ui g q17) (hu h q17 (1, [.int (nI o), .int (nI f), .ref ar, .ref ra])) := Stq.freshI hq17 _ _
    have H1 : PH G (ui g q17) (hu h q17 (1, [.int (nI o), .int (nI f), .ref ar, .ref ra])) s := H0.mv S2 (fun _ _ => trivial) (ObE.rf s) ⟨fun _ _ => rfl, fun _ _ => rfl⟩
    have I1 := Im.fresh g h q17 (1, [.int (nI o), .int (nI f), .ref ar, .ref ra])
    refine V_callV (N := hi_keep) d_fe_take_38 ml_fe_341 mdf_hi_keep wi_hi_keep wz_hi_keep (sp_hi_keep G H1 h512 D60 I1) (c8.st S2 trivial).1 ⟨_, rfl, rfl⟩ rfl rfl (by decide) (by decide) (Nat.le_of_ble_eq_true rfl) rfl rfl (kN fun h38 ⟨g2, K2, S3, e2⟩ => ?_)
    have R2 : RB g2 h38 s := (RB0.st hm S2 (fun _ _ => trivial)).st hm S3 (fun r hr => by unfold hiD; omega)
    have ex : g2.2 2 = g.2 2 := e2 2 (by unfold hiD; omega)
    have d1 : hiD 1 := by unfold hiD; omega
    have ir2 : Im g2 h38 ra (20, arrL n F) := (ir.st S2 trivial).st S3 d1
    have EN : EdN g2 h38 s o f n F q17 := ⟨ar, ra, I1.st S3 d1, (y2.st S2 trivial).st S3 d1, ir2⟩
    refine V_aload_n d_fe_take_41 rfl rfl ?_
    refine V_iload_n d_fe_take_42 rfl rfl ?_
    refine V_iload_n d_fe_take_43 rfl rfl ?_
    refine V_aload_n d_fe_take_44 rfl rfl ?_
    rw [← ex]
    refine V_callV (N := fe_put) d_fe_take_45 ml_fe_345 mdf_fe_put wi_fe_put wz_fe_put (sp_fe_put G R2 hm ivs ivo ivw ivf ivv ho hf hk hn ir2) R2.1.1 ⟨_, rfl, rfl⟩ rfl rfl (by decide) (by decide) (Nat.le_of_ble_eq_true rfl) rfl rfl (kN fun h45 ⟨p1, p2⟩ => ?_)
    refine V_iconst (v := 1) d_fe_take_48 (by decide) ?_
    refine V_ireturn d_fe_take_49 rfl ?_
    refine ⟨_, rfl, rfl, fun s' t hsc hT => ?_⟩
    obtain ⟨m1, m2, hP, hN, hH, hF⟩ := hT.out' ivh hE hsc
    have RBm := p1 m1 m2 hP hN
    have hco : CoB m2 t := by rcases hF with ⟨_, e⟩ | ⟨_, e⟩; (rw [e]; exact mF16.co _ _); exact (mF16.co m2 _).tr e.co
    obtain ⟨nq1, nq2⟩ := hN.co
    have hO3 : ObE s (mF m2 16 (nI (nE' s + 1))) := ObE.of (by rw [mF_1n _ _ (by omega), nq1]; exact hP.1 8 rfl) (by rw [mF_2, nq2 2 (by omega) (by omega)]; exact hP.2.1 2 rfl (by omega) (by omega)) (by rw [mF_2, nq2 3 (by omega) (by omega)]; exact hP.2.1 3 rfl (by omega) (by omega)) (by rw [mF_2, nq2 9 (by omega) (by omega)]; exact hP.2.1 9 rfl (by omega) (by omega))
    have hed := EN.ed ivo ivf ivv ho hf hk hn hO3 hH
    have PHt : PH G g2 h38 t := hF.elim (fun z => by rw [z.2]; exact K2.open_ ivh ivx hE hed hO3 hH z.1) (fun z => K2.shut ivh ivx hE hed hO3 hH z.1 z.2)
    refine ⟨g2, ⟨RBm.co hco, PHt.mv p2 (fun r hr => by omega) (ObE.rf t) ⟨fun _ _ => rfl, fun _ _ => rfl⟩⟩, ((S2.mo (fun _ _ => trivial)).tr (S3.mo (fun r hr => by unfold hiD; omega))).tr (p2.mo (fun r hr => by omega)), ex⟩
  · skip
    exact absurd c7 (by decide)
