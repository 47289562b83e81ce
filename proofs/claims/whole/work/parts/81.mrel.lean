/-! what the reference does, as relations that the class is held against -/
def IvA (s : Mem) : Prop := Ivs s ∧ IvD s ∧ IvE s ∧ IvG s ∧ IvK s ∧ IvP s ∧ Acy (Hd s) ∧ nE s < 680
section A
variable (G : Gk) {h : Hp} {m : Nat} {am : Nat → Nat} {s : Mem}
abbrev MQ1 (h : Hp) (m : Nat) (am : Nat → Nat) (Q : Int32 → Mem → Prop) : Option Value → Hp → Prop := pI fun r h' => ∃ t, Mod h m am h' t ∧ Q r t
theorem mc_shape (r : RepM h m am s) (I : IvA s) (v : Int32) : Ct G md_shape [.ref m, .int v] h (MQ1 h m am (R_shp s v)) := by
  have ivs := I.1.2.1
  refine (sp_md_shape G r ivs v).mono (fun x h' hp => ?_)
  obtain ⟨x, e, hp⟩ := hp
  refine ⟨x, e, ?_⟩
  rcases hp with ⟨h1, h2, rfl, h4⟩ | ⟨h1, h2, rfl, h4⟩ | ⟨h1, h2, t, h3, h4, h5⟩
  · exact ⟨s, Mod.rf r, cs.mf (fun q => q.elim h1 (fun z => h2 ((isSh_iff ivs v).mpr z))) ⟨h4, Sc.rf s⟩⟩
  · exact ⟨s, Mod.rf r, cs.mt (h1.imp id (isSh_iff ivs v).mp) (cs.mt h2 ⟨h4, Sc.rf s⟩)⟩
  · exact ⟨t, h3, cs.mt (h1.imp id (isSh_iff ivs v).mp) (cs.mf (by omega) ⟨h5, h4⟩)⟩
theorem mc_number (r : RepM h m am s) (I : IvA s) (v a b q1 q2 : Int32) : Ct G md_number [.ref m, .int v, .int a, .int b, .int q1, .int q2] h (MQ1 h m am (R_num s v a b q1 q2)) := by
  have ivs := I.1.2.1
  have n10 := ivs.2.1
  refine (sp_md_number G r ivs I.1.2.2.1 v a b q1 q2).mono (fun x h' hp => ?_)
  obtain ⟨x, e, hp⟩ := hp
  refine ⟨x, e, ?_⟩
  rcases hp with ⟨h1, rfl, h4⟩ | ⟨i, hi, rfl, h1, h2, h3⟩
  · refine ⟨s, Mod.rf r, cs.mf (fun q => ?_) ⟨h4, Sc.rf s⟩⟩
    rcases h1 with z | z | z
    · exact z ((isSh_iff ivs v).mpr q.1)
    · exact q.2.1 z
    · exact q.2.2 z
  · have key : (∃ t, Mod h m am h' t ∧ AdR s i 0 a b (-1) (flg q1 q2 0) x t) := by
      rcases h3 with ⟨z1, rfl, z3⟩ | ⟨z1, z2, z3⟩
      · exact ⟨s, Mod.rf r, cs.mf z1 ⟨z3, Sc.rf s⟩⟩
      · exact ⟨_, z2, cs.mt z1 ⟨z3, rfl⟩⟩
    obtain ⟨t, k1, k2⟩ := key
    exact ⟨t, k1, cs.mt ⟨⟨i, hi, rfl⟩, h1, h2⟩ (by rw [cl i (by omega)]; exact k2)⟩
theorem mc_link (r : RepM h m am s) (I : IvA s) (v u l q1 q2 q3 : Int32) : Ct G md_link [.ref m, .int v, .int u, .int l, .int q1, .int q2, .int q3] h (MQ1 h m am (R_lnk s v u l q1 q2 q3)) := by
  have ivs := I.1.2.1
  have n10 := ivs.2.1
  refine (sp_md_link G r ivs I.1.2.2.1 v u l q1 q2 q3).mono (fun x h' hp => ?_)
  obtain ⟨x, e, hp⟩ := hp
  refine ⟨x, e, ?_⟩
  rcases hp with ⟨h1, rfl, h4⟩ | ⟨i, hi, rfl, h1, h2, h3⟩
  · refine ⟨s, Mod.rf r, cs.mf (fun q => ?_) ⟨h4, Sc.rf s⟩⟩
    rcases h1 with z | z | z
    · exact z ((isSh_iff ivs v).mpr q.1)
    · exact z ((isSh_iff ivs u).mpr q.2.1)
    · exact q.2.2 z
  · have key : (∃ t, Mod h m am h' t ∧ AdR s i (if l = 0 then 1 else 2) u (-1) (-1) (flg q1 q2 q3) x t) := by
      rcases h3 with ⟨z1, rfl, z3⟩ | ⟨z1, z2, z3⟩
      · exact ⟨s, Mod.rf r, cs.mf z1 ⟨z3, Sc.rf s⟩⟩
      · exact ⟨_, z2, cs.mt z1 ⟨z3, rfl⟩⟩
    obtain ⟨t, k1, k2⟩ := key
    exact ⟨t, k1, cs.mt ⟨⟨i, hi, rfl⟩, (isSh_iff ivs u).mp h1, h2⟩ (by rw [cl i (by omega)]; exact k2)⟩
theorem mc_derived (r : RepM h m am s) (I : IvA s) (v c f y : Int32) : Ct G md_derived [.ref m, .int v, .int c, .int f, .int y] h (MQ1 h m am (R_der s v c f y)) := by
  have ivs := I.1.2.1
  have n10 := ivs.2.1
  refine (sp_md_derived G r ivs I.1.2.2.1 I.1.2.2.2.1 v c f y).mono (fun x h' hp => ?_)
  obtain ⟨x, e, hp⟩ := hp
  refine ⟨x, e, ?_⟩
  rcases hp with ⟨h1, rfl, h4⟩ | ⟨i, hi, rfl, h2, h3⟩
  · refine ⟨s, Mod.rf r, cs.mf (fun q => ?_) ⟨h4, Sc.rf s⟩⟩
    obtain ⟨⟨i, hi, rfl⟩, q2⟩ := q
    rw [cl i (by omega)] at q2
    exact h1 ⟨i, hi, rfl, q2⟩
  · have key : (∃ t, Mod h m am h' t ∧ AdR s i 3 c f y 0 x t) := by
      rcases h3 with ⟨z1, rfl, z3⟩ | ⟨z1, z2, z3⟩
      · exact ⟨s, Mod.rf r, cs.mf z1 ⟨z3, Sc.rf s⟩⟩
      · exact ⟨_, z2, cs.mt z1 ⟨z3, rfl⟩⟩
    obtain ⟨t, k1, k2⟩ := key
    exact ⟨t, k1, cs.mt ⟨⟨i, hi, rfl⟩, by rw [cl i (by omega)]; exact h2⟩ (by rw [cl i (by omega)]; exact k2)⟩
theorem mc_told (r : RepM h m am s) (I : IvA s) (v f w : Int32) : Ct G md_told [.ref m, .int v, .int f, .int w] h (MQ1 h m am (No s (toldM s v f w))) := by
  refine (sp_md_told G r I.1.2.1 v f w).mono (fun x h' hp => ?_)
  obtain ⟨x, e, rfl, hp⟩ := hp
  exact ⟨x, e, s, Mod.rf r, hp, Sc.rf s⟩
theorem mc_object (r : RepM h m am s) (I : IvA s) (v : Int32) : Ct G md_object [.ref m, .int v] h (MQ1 h m am (R_obj s v)) := by
  have ivs := I.1.2.1
  have n10 := ivs.2.1
  refine (sp_md_object G r ivs I.1.2.2.1 v).mono (fun x h' hp => ?_)
  obtain ⟨x, e, hp⟩ := hp
  refine ⟨x, e, ?_⟩
  rcases hp with ⟨h1, rfl, h4⟩ | ⟨i, hi, rfl, h3⟩
  · exact ⟨s, Mod.rf r, cs.mf (fun q => h1 ((isSh_iff ivs v).mpr q)) ⟨h4, Sc.rf s⟩⟩
  · rcases h3 with ⟨z1, rfl, z3⟩ | ⟨z1, t, z2, z3, z4⟩
    · exact ⟨s, Mod.rf r, cs.mt ⟨i, hi, rfl⟩ (cs.mt z1 ⟨z3, Sc.rf s⟩)⟩
    · exact ⟨t, z2, cs.mt ⟨i, hi, rfl⟩ (cs.mf (by omega) ⟨z4, by rw [cl i (by omega)]; exact z3⟩)⟩
theorem mc_get (r : RepM h m am s) (I : IvA s) (v f : Int32) : Ct G md_get [.ref m, .int v, .int f] h (MQ1 h m am (No s (getM s v f))) := by
  refine (sp_md_get G r I.1.2.1 I.1.2.2.1 I.1.2.2.2.1 I.1.2.2.2.2.1 v f).mono (fun x h' hp => ?_)
  obtain ⟨x, e, K, h1, h2⟩ := hp
  exact ⟨x, e, _, h1, h2, Sc.sK s K⟩
theorem mc_element (r : RepM h m am s) (I : IvA s) (v f i : Int32) : Ct G md_element [.ref m, .int v, .int f, .int i] h (MQ1 h m am (fun r t => R_elt s v f i r ∧ Sc s t)) := by
  have ivo := I.1.2.2.1
  have n60 := ivo.2.1
  have n10 := I.1.2.1.2.1
  refine (sp_md_element G r I.1.2.1 ivo I.1.2.2.2.2.1 v f i).mono (fun x h' hp => ?_)
  obtain ⟨x, e, rfl, hp⟩ := hp
  refine ⟨x, e, s, Mod.rf r, ?_, Sc.rf s⟩
  rcases hp with ⟨h1, h2⟩ | ⟨h1, h2, h3⟩ | ⟨o, j, n, k, h1, rfl, h2, rfl, h3, h4, h5, h6, rfl, h7⟩
  · exact cs.mf (fun q => h1 ((isOb_iff ivo v).mpr q)) h2
  · exact cs.mt ((isOb_iff ivo v).mp h1) (cs.mf h2 h3)
  · have n8 := (I.1.2.1.2.2.1 _ (ivo.2.2 o h1).2).2
    refine cs.mt ⟨o, h1, rfl⟩ (cs.mt ⟨o, j, n, k, h1, rfl, h2, rfl, h3, h4, h5, h6, rfl⟩ ?_)
    rw [cl o (by omega), cl j (by omega), cl k (by omega)]
    exact h7
theorem mc_shapeOf (r : RepM h m am s) (I : IvA s) (v : Int32) : Ct G md_shapeOf [.ref m, .int v] h (MQ1 h m am (fun r t => cs (iO s v) (r = s.2 9 v.toNatClampNeg) (r = -2) ∧ Sc s t)) := by
  have ivo := I.1.2.2.1
  have n60 := ivo.2.1
  refine (sp_md_shapeOf G r ivo v).mono (fun x h' hp => ?_)
  obtain ⟨x, e, rfl, hp⟩ := hp
  refine ⟨x, e, s, Mod.rf r, ?_, Sc.rf s⟩
  rcases hp with ⟨h1, h2⟩ | ⟨o, h1, rfl, h2⟩
  · exact cs.mf (fun q => h1 ((isOb_iff ivo v).mpr q)) h2
  · exact cs.mt ⟨o, h1, rfl⟩ (by rw [cl o (by omega), (ivo.2.2 o h1).1]; exact h2)
theorem mc_holders (r : RepM h m am s) (I : IvA s) (v : Int32) : Ct G md_holders [.ref m, .int v] h (MQ1 h m am (fun r t => cs (iO s v) (r = hdO s v (nO s)) (r = -2) ∧ Sc s t)) := by
  have ivo := I.1.2.2.1
  refine (sp_md_holders G r I.1.2.1 ivo I.1.2.2.2.2.1 v).mono (fun x h' hp => ?_)
  obtain ⟨x, e, rfl, hp⟩ := hp
  refine ⟨x, e, s, Mod.rf r, ?_, Sc.rf s⟩
  rcases hp with ⟨h1, h2⟩ | ⟨h1, h2⟩
  · exact cs.mf (fun q => h1 ((isOb_iff ivo v).mpr q)) h2
  · exact cs.mt ((isOb_iff ivo v).mp h1) h2
theorem mc_holds (r : RepM h m am s) (I : IvA s) (v w : Int32) : Ct G md_holds [.ref m, .int v, .int w] h (MQ1 h m am (fun r t => R_hol s v w r ∧ Sc s t)) := by
  have ivo := I.1.2.2.1
  have n60 := ivo.2.1
  refine (sp_md_holds G r I.1.2.1 ivo I.1.2.2.2.2.1 v w).mono (fun x h' hp => ?_)
  obtain ⟨x, e, hp⟩ := hp
  refine ⟨x, e, ?_⟩
  rcases hp with ⟨h1, rfl, h2⟩ | ⟨o, u, ho, hu', rfl, rfl, h1, h2⟩
  · exact ⟨s, Mod.rf r, cs.mf (fun q => h1.elim (fun z => z ((isOb_iff ivo v).mpr q.1)) (fun z => z ((isOb_iff ivo w).mpr q.2))) h2, Sc.rf s⟩
  · refine ⟨_, h1, cs.mt ⟨⟨o, ho, rfl⟩, ⟨u, hu', rfl⟩⟩ ?_, Sc.sB s _⟩
    rw [cl o (by omega), cl u (by omega), h2]
    exact (b01_i (hol_eq ivo I.1.2.2.2.2.1 I.2.2.2.2.2.2.1 ho hu')).symm
theorem mc_set (r : RepM h m am s) (I : IvA s) (v1 v2 v : Int32) : Ct G md_set [.ref m, .int v1, .int v2, .int v] h (MQ1 h m am (R_set s v1 v2 v)) := by
  have ivo := I.1.2.2.1
  have n60 := ivo.2.1
  have ivs := I.1.2.1
  have n10 := ivs.2.1
  refine (sp_md_set G r ivs ivo I.1.2.2.2.2.2.2.1 I.1.2.2.2.2.2.2.2.1 I.2.2.2.2.2.2.2 v1 v2 v).mono (fun x h' hp => ?_)
  obtain ⟨x, e, hp⟩ := hp
  refine ⟨x, e, ?_⟩
  rcases hp with ⟨h1, rfl, h2⟩ | ⟨o, f, ho, hf, rfl, rfl, hp⟩
  · exact ⟨s, Mod.rf r, cs.mf h1 ⟨h2, Sc.rf s⟩⟩
  have n8 := (ivs.2.2.1 _ (ivo.2.2 o ho).2).2
  have key : ∃ t, Mod h m am h' t ∧ (cs (kOf s o f ≠ 0) (No s (-6) x t) (cs (lckM s o f) (No s (-7) x t) (cs (¬ (s.2 4 (8 * sh s o + f) ≤ v ∧ v ≤ s.2 5 (8 * sh s o + f))) (No s (-8) x t) (cs (vetM s o f v (nW s)) (No s (-12) x t) (Tk s (fun s' t => SetE s' o f v t) x t))))) := by
    rcases hp with ⟨z1, rfl, z3⟩ | ⟨z1, z2, z3, rfl, z4⟩ | ⟨z1, z2, hp⟩
    · exact ⟨s, Mod.rf r, cs.mt z1 ⟨z3, Sc.rf s⟩⟩
    · exact ⟨s, Mod.rf r, cs.mf (fun q => q z1) (cs.mt ⟨z2, z3⟩ ⟨z4, Sc.rf s⟩)⟩
    · rcases hp with ⟨y1, rfl, y3⟩ | ⟨y1, y2, rfl, y3⟩ | ⟨y1, y2, y3, t, y4, y5⟩
      · exact ⟨s, Mod.rf r, cs.mf (fun q => q z1) (cs.mf z2 (cs.mt y1 ⟨y3, Sc.rf s⟩))⟩
      · exact ⟨s, Mod.rf r, cs.mf (fun q => q z1) (cs.mf z2 (cs.mf (fun q => q y1) (cs.mt y2 ⟨y3, Sc.rf s⟩)))⟩
      · exact ⟨t, y4, cs.mf (fun q => q z1) (cs.mf z2 (cs.mf (fun q => q y1) (cs.mf y2 ⟨y3, s, Sc.rf s, y5⟩)))⟩
  obtain ⟨t, k1, k2⟩ := key
  refine ⟨t, k1, cs.mt ⟨o, f, ho, rfl, hf, rfl⟩ ?_⟩
  rw [cl o (by omega), cl f (by omega)]
  exact k2
theorem mc_lead (r : RepM h m am s) (I : IvA s) (v1 v2 v : Int32) : Ct G md_lead [.ref m, .int v1, .int v2, .int v] h (MQ1 h m am (R_lea s v1 v2 v)) := by
  have ivo := I.1.2.2.1
  have n60 := ivo.2.1
  have ivs := I.1.2.1
  have n10 := ivs.2.1
  have ivv := I.1.2.2.2.2.1
  refine (sp_md_lead G r ivs ivo I.1.2.2.2.1 ivv I.1.2.2.2.2.2.2.1 I.1.2.2.2.2.2.2.2.1 I.2.2.2.2.2.2.2 v1 v2 v).mono (fun x h' hp => ?_)
  obtain ⟨x, e, hp⟩ := hp
  refine ⟨x, e, ?_⟩
  rcases hp with ⟨h1, rfl, h2⟩ | ⟨o, f, u, ho, hf, hu', rfl, rfl, rfl, hp⟩
  · exact ⟨s, Mod.rf r, cs.mf (fun q => h1.elim (fun z => z q.1) (fun z => z ((isOb_iff ivo v).mpr q.2))) ⟨h2, Sc.rf s⟩⟩
  have n8 := (ivs.2.2.1 _ (ivo.2.2 o ho).2).2
  have key : ∃ t, Mod h m am h' t ∧ (cs (kOf s o f ≠ 1) (No s (-6) x t) (cs (lckM s o f) (No s (-7) x t) (cs (isOf s (nI (sh s u)) (s.2 4 (8 * sh s o + f)) = false) (No s (-9) x t) (cs (loopC s o (8 * sh s o + f) u) (No s (-10) x t) (Tk s (fun s' t => SetE s' o f (nI u) t) x t))))) := by
    rcases hp with ⟨z1, rfl, z3⟩ | ⟨z1, z2, z3, rfl, z4⟩ | ⟨z1, z2, hp⟩
    · exact ⟨s, Mod.rf r, cs.mt z1 ⟨z3, Sc.rf s⟩⟩
    · exact ⟨s, Mod.rf r, cs.mf (fun q => q z1) (cs.mt ⟨z2, z3⟩ ⟨z4, Sc.rf s⟩)⟩
    · rcases hp with ⟨y1, rfl, y3⟩ | ⟨y1, s', y2, hp⟩
      · exact ⟨s, Mod.rf r, cs.mf (fun q => q z1) (cs.mf z2 (cs.mt y1 ⟨y3, Sc.rf s⟩))⟩
      · rcases hp with ⟨w1, w2, w3⟩ | ⟨w1, w2, t, w3, w4⟩
        · exact ⟨s', w2, cs.mf (fun q => q z1) (cs.mf z2 (cs.mf (by rw [y1]; decide) (cs.mt ((loop_eq ivo ivv ho hu').mpr w1) ⟨w3, y2⟩)))⟩
        · exact ⟨t, w3, cs.mf (fun q => q z1) (cs.mf z2 (cs.mf (by rw [y1]; decide) (cs.mf (fun q => w1 ((loop_eq ivo ivv ho hu').mp q)) ⟨w2, s', y2, w4⟩)))⟩
  obtain ⟨t, k1, k2⟩ := key
  refine ⟨t, k1, cs.mt ⟨⟨o, f, ho, rfl, hf, rfl⟩, u, hu', rfl⟩ ?_⟩
  rw [cl o (by omega), cl f (by omega), cl u (by omega)]
  exact k2
theorem mc_unset (r : RepM h m am s) (I : IvA s) (v1 v2 : Int32) : Ct G md_unset [.ref m, .int v1, .int v2] h (MQ1 h m am (R_uns s v1 v2)) := by
  have ivo := I.1.2.2.1
  have n60 := ivo.2.1
  have ivs := I.1.2.1
  have n10 := ivs.2.1
  refine (sp_md_unset G r ivs ivo I.1.2.2.2.2.2.2.1 I.1.2.2.2.2.2.2.2.1 I.2.2.2.2.2.2.2 v1 v2).mono (fun x h' hp => ?_)
  obtain ⟨x, e, hp⟩ := hp
  refine ⟨x, e, ?_⟩
  rcases hp with ⟨h1, rfl, h2⟩ | ⟨o, f, ho, hf, rfl, rfl, hp⟩
  · exact ⟨s, Mod.rf r, cs.mf h1 ⟨h2, Sc.rf s⟩⟩
  have n8 := (ivs.2.2.1 _ (ivo.2.2 o ho).2).2
  have key : ∃ t, Mod h m am h' t ∧ (cs (¬ (kOf s o f = 0 ∨ kOf s o f = 1)) (No s (-6) x t) (cs (0 < s.2 7 (8 * sh s o + f) &&& 2) (No s (-7) x t) (cs (0 < s.2 7 (8 * sh s o + f) &&& 1) (No s (-11) x t) (Tk s (fun s' t => SetE s' o f MISS t) x t)))) := by
    rcases hp with ⟨z1, rfl, z3⟩ | ⟨z1, hp⟩
    · exact ⟨s, Mod.rf r, cs.mt z1 ⟨z3, Sc.rf s⟩⟩
    · rcases hp with ⟨y1, rfl, y3⟩ | ⟨y1, y2, rfl, y3⟩ | ⟨y1, y2, y3, t, y4, y5⟩
      · exact ⟨s, Mod.rf r, cs.mf (fun q => q z1) (cs.mt y1 ⟨y3, Sc.rf s⟩)⟩
      · exact ⟨s, Mod.rf r, cs.mf (fun q => q z1) (cs.mf y1 (cs.mt y2 ⟨y3, Sc.rf s⟩))⟩
      · exact ⟨t, y4, cs.mf (fun q => q z1) (cs.mf y1 (cs.mf y2 ⟨y3, s, Sc.rf s, y5⟩))⟩
  obtain ⟨t, k1, k2⟩ := key
  refine ⟨t, k1, cs.mt ⟨o, f, ho, rfl, hf, rfl⟩ ?_⟩
  rw [cl o (by omega), cl f (by omega)]
  exact k2
theorem mc_insert (r : RepM h m am s) (I : IvA s) (v1 v2 v w : Int32) : Ct G md_insert [.ref m, .int v1, .int v2, .int v, .int w] h (MQ1 h m am (R_ins s v1 v2 v w)) := by
  have ivo := I.1.2.2.1
  have n60 := ivo.2.1
  have ivs := I.1.2.1
  have n10 := ivs.2.1
  have ivv := I.1.2.2.2.2.1
  refine (sp_md_insert G r ivs ivo ivv I.1.2.2.2.2.2.2.1 I.1.2.2.2.2.2.2.2.1 I.2.2.2.2.2.2.2 v1 v2 v w).mono (fun x h' hp => ?_)
  obtain ⟨x, e, hp⟩ := hp
  refine ⟨x, e, ?_⟩
  rcases hp with ⟨h1, rfl, h2⟩ | ⟨o, f, u, ho, hf, hu', rfl, rfl, rfl, hp⟩
  · exact ⟨s, Mod.rf r, cs.mf (fun q => h1.elim (fun z => z q.1) (fun z => z ((isOb_iff ivo w).mpr q.2))) ⟨h2, Sc.rf s⟩⟩
  have n8 := (ivs.2.2.1 _ (ivo.2.2 o ho).2).2
  have key : ∃ t, Mod h m am h' t ∧ (cs (kOf s o f ≠ 2) (No s (-6) x t) (cs (lnOf s o f = 6 ∨ ∀ i, i ≤ lnOf s o f → v ≠ nI i) (No s (-8) x t) (cs (isOf s (nI (sh s u)) (s.2 4 (8 * sh s o + f)) = false) (No s (-9) x t) (cs (loopC s o (8 * sh s o + f) u) (No s (-10) x t) (Tk s (fun s' t => InsE s' o f (lnOf s o f) v.toNatClampNeg (nI u) t) x t))))) := by
    rcases hp with ⟨z1, rfl, z3⟩ | ⟨z1, len, z2, z3, hp⟩
    · exact ⟨s, Mod.rf r, cs.mt z1 ⟨z3, Sc.rf s⟩⟩
    · have el : lnOf s o f = len := by
        show (s.2 10 (8 * o + f)).toNatClampNeg = len
        rw [z3]; exact cl len (by omega)
      rw [el]
      rcases hp with ⟨y1, rfl, y3⟩ | ⟨i, y1, y2, rfl, hp⟩
      · exact ⟨s, Mod.rf r, cs.mf (fun q => q z1) (cs.mt y1 ⟨y3, Sc.rf s⟩)⟩
      · have hno : ¬ (len = 6 ∨ ∀ i', i' ≤ len → nI i ≠ nI i') := fun q => q.elim (fun q => by omega) (fun q => q i y2 rfl)
        rw [cl i (by omega)]
        rcases hp with ⟨w1, rfl, w3⟩ | ⟨w1, s', w2, hp⟩
        · exact ⟨s, Mod.rf r, cs.mf (fun q => q z1) (cs.mf hno (cs.mt w1 ⟨w3, Sc.rf s⟩))⟩
        · rcases hp with ⟨u1, u2, u3⟩ | ⟨u1, u2, t, u3, u4⟩
          · exact ⟨s', u2, cs.mf (fun q => q z1) (cs.mf hno (cs.mf (by rw [w1]; decide) (cs.mt ((loop_eq ivo ivv ho hu').mpr u1) ⟨u3, w2⟩)))⟩
          · exact ⟨t, u3, cs.mf (fun q => q z1) (cs.mf hno (cs.mf (by rw [w1]; decide) (cs.mf (fun q => u1 ((loop_eq ivo ivv ho hu').mp q)) ⟨u2, s', w2, u4⟩)))⟩
  obtain ⟨t, k1, k2⟩ := key
  refine ⟨t, k1, cs.mt ⟨⟨o, f, ho, rfl, hf, rfl⟩, u, hu', rfl⟩ ?_⟩
  rw [cl o (by omega), cl f (by omega), cl u (by omega)]
  exact k2
theorem mc_remove (r : RepM h m am s) (I : IvA s) (v1 v2 v : Int32) : Ct G md_remove [.ref m, .int v1, .int v2, .int v] h (MQ1 h m am (R_rem s v1 v2 v)) := by
  have ivo := I.1.2.2.1
  have n60 := ivo.2.1
  have ivs := I.1.2.1
  have n10 := ivs.2.1
  refine (sp_md_remove G r ivs ivo I.1.2.2.2.2.1 I.1.2.2.2.2.2.2.1 I.1.2.2.2.2.2.2.2.1 I.2.2.2.2.2.2.2 v1 v2 v).mono (fun x h' hp => ?_)
  obtain ⟨x, e, hp⟩ := hp
  refine ⟨x, e, ?_⟩
  rcases hp with ⟨h1, rfl, h2⟩ | ⟨o, f, ho, hf, rfl, rfl, hp⟩
  · exact ⟨s, Mod.rf r, cs.mf h1 ⟨h2, Sc.rf s⟩⟩
  have n8 := (ivs.2.2.1 _ (ivo.2.2 o ho).2).2
  have key : ∃ t, Mod h m am h' t ∧ (cs (kOf s o f ≠ 2) (No s (-6) x t) (cs (∀ i, i < lnOf s o f → v ≠ nI i) (No s (-8) x t) (Tk s (fun s' t => RemE s' o f (lnOf s o f) v.toNatClampNeg t) x t))) := by
    rcases hp with ⟨z1, rfl, z3⟩ | ⟨z1, len, z2, z3, hp⟩
    · exact ⟨s, Mod.rf r, cs.mt z1 ⟨z3, Sc.rf s⟩⟩
    · have el : lnOf s o f = len := by
        show (s.2 10 (8 * o + f)).toNatClampNeg = len
        rw [z3]; exact cl len (by omega)
      rw [el]
      rcases hp with ⟨y1, rfl, y3⟩ | ⟨i, y1, rfl, y3, t, y4, y5⟩
      · exact ⟨s, Mod.rf r, cs.mf (fun q => q z1) (cs.mt y1 ⟨y3, Sc.rf s⟩)⟩
      · rw [cl i (by omega)]
        exact ⟨t, y4, cs.mf (fun q => q z1) (cs.mf (fun q => q i y1 rfl) ⟨y3, s, Sc.rf s, y5⟩)⟩
  obtain ⟨t, k1, k2⟩ := key
  refine ⟨t, k1, cs.mt ⟨o, f, ho, rfl, hf, rfl⟩ ?_⟩
  rw [cl o (by omega), cl f (by omega)]
  exact k2
theorem mc_sort (r : RepM h m am s) (I : IvA s) (v1 v2 v fl : Int32) : Ct G md_sort [.ref m, .int v1, .int v2, .int v, .int fl] h (MQ1 h m am (R_srt s v1 v2 v fl)) := by
  have ivo := I.1.2.2.1
  have n60 := ivo.2.1
  have ivs := I.1.2.1
  have n10 := ivs.2.1
  refine (sp_md_sort G r ivs ivo I.1.2.2.2.1 I.1.2.2.2.2.1 I.1.2.2.2.2.2.2.1 I.1.2.2.2.2.2.2.2.1 I.2.2.2.2.2.2.2 v1 v2 v fl).mono (fun x h' hp => ?_)
  obtain ⟨x, e, hp⟩ := hp
  refine ⟨x, e, ?_⟩
  rcases hp with ⟨h1, rfl, h2⟩ | ⟨o, f, ho, hf, rfl, rfl, hp⟩
  · exact ⟨s, Mod.rf r, cs.mf h1 ⟨h2, Sc.rf s⟩⟩
  have n8 := (ivs.2.2.1 _ (ivo.2.2 o ho).2).2
  have key : ∃ t, Mod h m am h' t ∧ (cs (kOf s o f ≠ 2) (No s (-6) x t) (cs (∀ g, g ≤ 7 → v ≠ nI g) (No s (-8) x t) (Tk s (fun s' t => SrtE s' o f v.toNatClampNeg (lnOf s o f) fl t) x t))) := by
    rcases hp with ⟨z1, rfl, z3⟩ | ⟨z1, len, z2, z3, hp⟩
    · exact ⟨s, Mod.rf r, cs.mt z1 ⟨z3, Sc.rf s⟩⟩
    · have el : lnOf s o f = len := by
        show (s.2 10 (8 * o + f)).toNatClampNeg = len
        rw [z3]; exact cl len (by omega)
      rw [el]
      rcases hp with ⟨y1, rfl, y3⟩ | ⟨i, y1, rfl, y3, t, y4, y5⟩
      · exact ⟨s, Mod.rf r, cs.mf (fun q => q z1) (cs.mt y1 ⟨y3, Sc.rf s⟩)⟩
      · rw [cl i (by omega)]
        exact ⟨t, y4, cs.mf (fun q => q z1) (cs.mf (fun q => q i y1 rfl) ⟨y3, s, Sc.rf s, y5⟩)⟩
  obtain ⟨t, k1, k2⟩ := key
  refine ⟨t, k1, cs.mt ⟨o, f, ho, rfl, hf, rfl⟩ ?_⟩
  rw [cl o (by omega), cl f (by omega)]
  exact k2
theorem mc_begin (r : RepM h m am s) (I : IvA s) : Ct G md_begin [.ref m] h (MQ1 h m am (R_beg s)) := by
  refine (sp_md_begin G r I.1.2.2.2.2.2.2.2.1).mono (fun x h' hp => ?_)
  obtain ⟨x, e, hp⟩ := hp
  refine ⟨x, e, ?_⟩
  rcases hp with ⟨h1, rfl, h2⟩ | ⟨h1, h2, h3⟩
  · exact ⟨s, Mod.rf r, cs.mt h1 ⟨h2, Sc.rf s⟩⟩
  · exact ⟨_, h3, cs.mf (fun q => q h1) ⟨h2, rfl⟩⟩
theorem mc_commit (r : RepM h m am s) (I : IvA s) : Ct G md_commit [.ref m] h (MQ1 h m am (R_com s)) := by
  refine (sp_md_commit G r I.1.2.2.2.2.2.2.2.1 I.2.2.2.1).mono (fun x h' hp => ?_)
  obtain ⟨x, e, hp⟩ := hp
  refine ⟨x, e, ?_⟩
  rcases hp with ⟨h1, rfl, h2⟩ | ⟨h1, h2, t, h3, h4⟩
  · exact ⟨s, Mod.rf r, cs.mt h1 ⟨h2, Sc.rf s⟩⟩
  · refine ⟨t, h3, cs.mf h1 ⟨h2, ?_⟩⟩
    rcases h4 with ⟨z1, z2⟩ | ⟨z1, z2⟩
    · exact cs.mt z1 z2
    · exact cs.mf (by omega) z2
theorem mc_abort (r : RepM h m am s) (I : IvA s) : Ct G md_abort [.ref m] h (MQ1 h m am (R_abt s)) := by
  refine (sp_md_abort G r I.1.2.1 I.1.2.2.1 I.1.2.2.2.2.2.2.1 I.1.2.2.2.2.2.2.2.1 I.2.2.2.1 I.2.2.1).mono (fun x h' hp => ?_)
  obtain ⟨x, e, hp⟩ := hp
  refine ⟨x, e, ?_⟩
  rcases hp with ⟨h1, rfl, h2⟩ | ⟨h1, h2, t, h3, h4⟩
  · exact ⟨s, Mod.rf r, cs.mt h1 ⟨h2, Sc.rf s⟩⟩
  · exact ⟨t, h3, cs.mf h1 ⟨h2, h4⟩⟩
theorem mc_undo (r : RepM h m am s) (I : IvA s) : Ct G md_undo [.ref m] h (MQ1 h m am (R_und s)) := by
  refine (sp_md_undo G r I.1.2.1 I.1.2.2.1 I.1.2.2.2.2.2.2.1 I.1.2.2.2.2.2.2.2.1 I.2.2.1).mono (fun x h' hp => ?_)
  obtain ⟨x, e, hp⟩ := hp
  refine ⟨x, e, ?_⟩
  rcases hp with ⟨h1, rfl, h2⟩ | ⟨h1, h2, h3, t, h4, h5⟩
  · exact ⟨s, Mod.rf r, cs.mt h1 ⟨h2, Sc.rf s⟩⟩
  · exact ⟨_, h4, cs.mf (fun q => q.elim (fun z => z h1) (fun z => by omega)) ⟨h3, t, h5, rfl⟩⟩
theorem mc_redo (r : RepM h m am s) (I : IvA s) : Ct G md_redo [.ref m] h (MQ1 h m am (R_red s)) := by
  refine (sp_md_redo G r I.1.2.1 I.1.2.2.1 I.1.2.2.2.2.2.2.1 I.1.2.2.2.2.2.2.2.1 I.2.2.1).mono (fun x h' hp => ?_)
  obtain ⟨x, e, hp⟩ := hp
  refine ⟨x, e, ?_⟩
  rcases hp with ⟨h1, rfl, h2⟩ | ⟨h1, h2, h3, t, h4, h5⟩
  · exact ⟨s, Mod.rf r, cs.mt h1 ⟨h2, Sc.rf s⟩⟩
  · exact ⟨_, h4, cs.mf (fun q => q.elim (fun z => z h1) (fun z => by omega)) ⟨h3, t, h5, rfl⟩⟩
theorem isPa_iff {s : Mem} (ivp : IvP s) (v : Int32) : isPa s v ↔ iP s v := by
  have n16 := ivp.2.1
  exact ⟨fun q => ix_of ivp.1 (by omega) q, fun ⟨i, h1, h2⟩ => Classical.byContradiction fun q => ix_no ivp.1 (by omega) q i h1 h2⟩
theorem mc_path (r : RepM h m am s) (I : IvA s) : Ct G md_path [.ref m] h (MQ1 h m am (R_pth s)) := by
  refine (sp_md_path G r I.2.2.2.2.2.1).mono (fun x h' hp => ?_)
  obtain ⟨x, e, hp⟩ := hp
  refine ⟨x, e, ?_⟩
  rcases hp with ⟨h1, rfl, h2⟩ | ⟨h1, h2, h3⟩
  · exact ⟨s, Mod.rf r, cs.mt h1 ⟨h2, Sc.rf s⟩⟩
  · exact ⟨_, h3, cs.mf (by omega) ⟨h2, rfl⟩⟩
theorem mc_step (r : RepM h m am s) (I : IvA s) (v k n : Int32) : Ct G md_step [.ref m, .int v, .int k, .int n] h (MQ1 h m am (R_stp s v k n)) := by
  have ivp := I.2.2.2.2.2.1
  have n16 := ivp.2.1
  refine (sp_md_step G r ivp v k n).mono (fun x h' hp => ?_)
  obtain ⟨x, e, hp⟩ := hp
  refine ⟨x, e, ?_⟩
  rcases hp with ⟨h1, rfl, h2⟩ | ⟨p, hp, rfl, h1, h2⟩
  · exact ⟨s, Mod.rf r, cs.mf (fun q => h1 ⟨(isPa_iff ivp v).mpr q.1, q.2⟩) ⟨h2, Sc.rf s⟩⟩
  · rcases h2 with ⟨z1, rfl, z2⟩ | ⟨z1, z2, z3⟩
    · exact ⟨s, Mod.rf r, cs.mt ⟨⟨p, hp, rfl⟩, h1⟩ (by rw [cl p (by omega)]; exact cs.mt z1 ⟨z2, Sc.rf s⟩)⟩
    · exact ⟨_, z3, cs.mt ⟨⟨p, hp, rfl⟩, h1⟩ (by rw [cl p (by omega)]; exact cs.mf (by omega) ⟨z2, rfl⟩)⟩
theorem mc_fault (r : RepM h m am s) (I : IvA s) (v w : Int32) : Ct G md_fault [.ref m, .int v, .int w] h (MQ1 h m am (fun r t => R_flt s v w r ∧ Sc s t)) := by
  have ivp := I.2.2.2.2.2.1
  have n16 := ivp.2.1
  have ivs := I.1.2.1
  have n10 := ivs.2.1
  refine (sp_md_fault G r ivs I.1.2.2.2.1 ivp v w).mono (fun x h' hp => ?_)
  obtain ⟨x, e, rfl, hp⟩ := hp
  refine ⟨x, e, s, Mod.rf r, ?_, Sc.rf s⟩
  rcases hp with ⟨h1, h2⟩ | ⟨p, i, hp, rfl, hi, rfl, h2⟩
  · exact cs.mf (fun q => h1 ⟨(isPa_iff ivp v).mpr q.1, (isSh_iff ivs w).mpr q.2⟩) h2
  · exact cs.mt ⟨⟨p, hp, rfl⟩, ⟨i, hi, rfl⟩⟩ (by rw [cl p (by omega), cl i (by omega)]; exact h2)
theorem mc_matches (r : RepM h m am s) (I : IvA s) (v w : Int32) : Ct G md_matches [.ref m, .int v, .int w] h (MQ1 h m am (fun r t => R_mts s v w r ∧ Sc s t)) := by
  have ivp := I.2.2.2.2.2.1
  have n16 := ivp.2.1
  have ivo := I.1.2.2.1
  have n60 := ivo.2.1
  refine (sp_md_matches G r I.1.2.1 ivo I.1.2.2.2.2.1 ivp v w).mono (fun x h' hp => ?_)
  obtain ⟨x, e, hp⟩ := hp
  refine ⟨x, e, ?_⟩
  rcases hp with ⟨h1, rfl, h2⟩ | ⟨p, o, hp, ho, rfl, rfl, ⟨t, h2, h3⟩, h4⟩
  · exact ⟨s, Mod.rf r, cs.mf (fun q => h1 ⟨(isPa_iff ivp v).mpr q.1, (isOb_iff ivo w).mpr q.2⟩) h2, Sc.rf s⟩
  · exact ⟨t, h2, cs.mt ⟨⟨p, hp, rfl⟩, ⟨o, ho, rfl⟩⟩ (by rw [cl p (by omega), cl o (by omega)]; exact h4), h3⟩
theorem mc_match (r : RepM h m am s) (I : IvA s) (v w i y : Int32) : Ct G md_match [.ref m, .int v, .int w, .int i, .int y] h (MQ1 h m am (fun r t => R_mch s v w i y r ∧ Sc s t)) := by
  have ivp := I.2.2.2.2.2.1
  have n16 := ivp.2.1
  have ivo := I.1.2.2.1
  have n60 := ivo.2.1
  refine (sp_md_match G r I.1.2.1 ivo I.1.2.2.2.2.1 ivp v w i y).mono (fun x h' hp => ?_)
  obtain ⟨x, e, hp⟩ := hp
  refine ⟨x, e, ?_⟩
  rcases hp with ⟨h1, rfl, h2⟩ | ⟨p, o, hp, ho, rfl, rfl, hy, ⟨t, h2, h3⟩, h4⟩
  · exact ⟨s, Mod.rf r, cs.mf (fun q => h1 ⟨(isPa_iff ivp v).mpr q.1, (isOb_iff ivo w).mpr q.2.1, q.2.2⟩) h2, Sc.rf s⟩
  · exact ⟨t, h2, cs.mt ⟨⟨p, hp, rfl⟩, ⟨o, ho, rfl⟩, hy⟩ (by rw [cl p (by omega), cl o (by omega)]; exact h4), h3⟩
theorem mc_copy (r : RepM h m am s) (I : IvA s) (v : Int32) : Ct G md_copy [.ref m, .int v] h (MQ1 h m am (R_cpy s v)) := by
  have ivo := I.1.2.2.1
  have n60 := ivo.2.1
  refine (sp_md_copy G r I.1.2.1 ivo I.1.2.2.2.2.1 v).mono (fun x h' hp => ?_)
  obtain ⟨x, e, hp⟩ := hp
  refine ⟨x, e, ?_⟩
  rcases hp with ⟨h1, rfl, h2⟩ | ⟨o, ho, rfl, hp⟩
  · exact ⟨s, Mod.rf r, cs.mf (fun q => h1 ((isOb_iff ivo v).mpr q)) ⟨h2, Sc.rf s⟩⟩
  · rcases hp with ⟨z1, ⟨t, z2, z3⟩, z4⟩ | ⟨z1, ⟨t, z2, z3⟩, z4⟩
    · exact ⟨t, z2, cs.mt ⟨o, ho, rfl⟩ (by rw [cl o (by omega)]; exact cs.mt z1 ⟨z4, z3⟩)⟩
    · exact ⟨t, z2, cs.mt ⟨o, ho, rfl⟩ (by rw [cl o (by omega)]; exact cs.mf (by omega) ⟨z4, z3⟩)⟩
theorem mc_alike (r : RepM h m am s) (I : IvA s) (v w : Int32) : Ct G md_alike [.ref m, .int v, .int w] h (MQ1 h m am (fun r t => R_alk s v w r ∧ Sc s t)) := by
  have ivo := I.1.2.2.1
  have n60 := ivo.2.1
  refine (sp_md_alike G r I.1.2.1 ivo I.1.2.2.2.2.1 v w).mono (fun x h' hp => ?_)
  obtain ⟨x, e, hp⟩ := hp
  refine ⟨x, e, ?_⟩
  rcases hp with ⟨h1, rfl, h2⟩ | ⟨o, u, ho, hu', rfl, rfl, h2, t, h3, h4⟩
  · exact ⟨s, Mod.rf r, cs.mf (fun q => h1 ⟨(isOb_iff ivo v).mpr q.1, (isOb_iff ivo w).mpr q.2⟩) h2, Sc.rf s⟩
  · exact ⟨t, h3, cs.mt ⟨⟨o, ho, rfl⟩, ⟨u, hu', rfl⟩⟩ (by rw [cl o (by omega), cl u (by omega)]; exact h2), h4⟩
theorem mc_watch (r : RepM h m am s) (I : IvA s) (v f vt l : Int32) (hvt : vt = 0 ∨ vt = 1) : Ct G md_watch [.ref m, .int v, .int f, .int vt, .int l] h (MQ1 h m am (R_wat s v f vt l)) := by
  have ivs := I.1.2.1
  have n10 := ivs.2.1
  refine (sp_md_watch G r ivs I.1.2.2.2.2.2.2.1 v f vt l hvt).mono (fun x h' hp => ?_)
  obtain ⟨x, e, hp⟩ := hp
  refine ⟨x, e, ?_⟩
  rcases hp with ⟨h1, rfl, h2⟩ | ⟨i, hi, rfl, h1, hp⟩
  · refine ⟨s, Mod.rf r, cs.mf (fun q => ?_) ⟨h2, Sc.rf s⟩⟩
    obtain ⟨⟨i, hi, rfl⟩, q2⟩ := q
    rw [cl i (by omega)] at q2
    exact h1 ⟨i, hi, rfl, q2⟩
  · rcases hp with ⟨z1, rfl, z2⟩ | ⟨z1, z2, z3⟩
    · exact ⟨s, Mod.rf r, cs.mt ⟨⟨i, hi, rfl⟩, by rw [cl i (by omega)]; exact h1⟩ (cs.mt z1 ⟨z2, Sc.rf s⟩)⟩
    · exact ⟨_, z2, cs.mt ⟨⟨i, hi, rfl⟩, by rw [cl i (by omega)]; exact h1⟩ (cs.mf (by omega) ⟨z3, rfl⟩)⟩
theorem mc_note (r : RepM h m am s) (I : IvA s) (v k w : Int32) : Ct G md_note [.ref m, .int v, .int k, .int w] h (MQ1 h m am (No s (noteM s v k w))) := by
  refine (sp_md_note G r I.1.2.2.2.2.2.2.1 v k w).mono (fun x h' hp => ?_)
  obtain ⟨x, e, rfl, hp⟩ := hp
  exact ⟨x, e, s, Mod.rf r, hp, Sc.rf s⟩
theorem mc_lacks (r : RepM h m am s) (I : IvA s) : Ct G md_lacks [.ref m] h (MQ1 h m am (No s (lkO s (nO s)))) := by
  refine (sp_md_lacks G r I.1.2.1 I.1.2.2.1).mono (fun x h' hp => ?_)
  obtain ⟨x, e, rfl, hp⟩ := hp
  exact ⟨x, e, s, Mod.rf r, hp, Sc.rf s⟩
theorem mc_count (r : RepM h m am s) (I : IvA s) (w : Int32) : Ct G md_count [.ref m, .int w] h (MQ1 h m am (No s (cntM s w))) := by
  refine (sp_md_count G r I.1.2.2.2.2.2.2.2.1 I.2.2.2.1 w).mono (fun x h' hp => ?_)
  obtain ⟨x, e, rfl, hp⟩ := hp
  exact ⟨x, e, s, Mod.rf r, hp, Sc.rf s⟩
theorem mc_digest (r : RepM h m am s) (I : IvA s) : Ct G md_digest [.ref m] h (pL fun r h' => ∃ t, Mod h m am h' t ∧ r = digM s ∧ Sc s t) := by
  refine (sp_md_digest G r I.1.2.1 I.1.2.2.1 I.1.2.2.2.1 I.1.2.2.2.2.1 I.1.2.2.2.2.2.2.2.1 I.2.2.2.1).mono (fun x h' hp => ?_)
  obtain ⟨x, e, ⟨t, h1, h2⟩, hp⟩ := hp
  exact ⟨x, e, t, h1, hp, h2⟩
end A
