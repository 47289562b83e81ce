/-! set, lead, unset, insert, remove, sort -/
theorem and2 (x : Int32) : (0 < x &&& 2) ↔ x &&& 2 ≠ 0 := by
  have h : x &&& 2 = 0 ∨ x &&& 2 = 2 := by
    have hb : (x &&& 2).toBitVec = 0#32 ∨ (x &&& 2).toBitVec = 2#32 := by
      have e : (x &&& 2).toBitVec = x.toBitVec &&& BitVec.twoPow 32 1 := rfl
      rw [e, BitVec.and_twoPow]
      split
      · exact Or.inr rfl
      · exact Or.inl rfl
    exact hb.imp (fun q => Int32.toBitVec_inj.mp q) (fun q => Int32.toBitVec_inj.mp q)
  rcases h with e | e <;> rw [e] <;> decide
theorem and1 (x : Int32) : (0 < x &&& 1) ↔ x &&& 1 ≠ 0 := by
  have h : x &&& 1 = 0 ∨ x &&& 1 = 1 := by
    have hb : (x &&& 1).toBitVec = 0#32 ∨ (x &&& 1).toBitVec = 1#32 := by
      have e : (x &&& 1).toBitVec = x.toBitVec &&& BitVec.twoPow 32 0 := rfl
      rw [e, BitVec.and_twoPow]
      split
      · exact Or.inr rfl
      · exact Or.inl rfl
    exact hb.imp (fun q => Int32.toBitVec_inj.mp q) (fun q => Int32.toBitVec_inj.mp q)
  rcases h with e | e <;> rw [e] <;> decide
/-- an edit that is taken -/
def Tk (s : Mem) (Q : Mem → Mem → Prop) (r : Int32) (t : Mem) : Prop := r = 1 ∧ ∃ s', Sc s s' ∧ Q s' t
abbrev No (s : Mem) (c r : Int32) (t : Mem) : Prop := r = c ∧ Sc s t
abbrev kOf (s : Mem) (o f : Nat) : Int32 := s.2 3 (8 * sh s o + f)
def lckM (s : Mem) (o f : Nat) : Prop := 0 < s.2 7 (8 * sh s o + f) &&& 2 ∧ s.2 10 (8 * o + f) ≠ MISS
def R_set (s : Mem) (v1 v2 v r : Int32) (t : Mem) : Prop := cs (hasF s v1 v2) (cs (kOf s v1.toNatClampNeg v2.toNatClampNeg ≠ 0) (No s (-6) r t) (cs (lckM s v1.toNatClampNeg v2.toNatClampNeg) (No s (-7) r t) (cs (¬ (s.2 4 (8 * sh s v1.toNatClampNeg + v2.toNatClampNeg) ≤ v ∧ v ≤ s.2 5 (8 * sh s v1.toNatClampNeg + v2.toNatClampNeg))) (No s (-8) r t) (cs (vetM s v1.toNatClampNeg v2.toNatClampNeg v (nW s)) (No s (-12) r t) (Tk s (fun s' t => SetE s' v1.toNatClampNeg v2.toNatClampNeg v t) r t))))) (No s (-2) r t)
def R_lea (s : Mem) (v1 v2 v r : Int32) (t : Mem) : Prop := cs (hasF s v1 v2 ∧ iO s v) (cs (kOf s v1.toNatClampNeg v2.toNatClampNeg ≠ 1) (No s (-6) r t) (cs (lckM s v1.toNatClampNeg v2.toNatClampNeg) (No s (-7) r t) (cs (isOf s (nI (sh s v.toNatClampNeg)) (s.2 4 (8 * sh s v1.toNatClampNeg + v2.toNatClampNeg)) = false) (No s (-9) r t) (cs (loopC s v1.toNatClampNeg (8 * sh s v1.toNatClampNeg + v2.toNatClampNeg) v.toNatClampNeg) (No s (-10) r t) (Tk s (fun s' t => SetE s' v1.toNatClampNeg v2.toNatClampNeg v t) r t))))) (No s (-2) r t)
def R_uns (s : Mem) (v1 v2 r : Int32) (t : Mem) : Prop := cs (hasF s v1 v2) (cs (¬ (kOf s v1.toNatClampNeg v2.toNatClampNeg = 0 ∨ kOf s v1.toNatClampNeg v2.toNatClampNeg = 1)) (No s (-6) r t) (cs (0 < s.2 7 (8 * sh s v1.toNatClampNeg + v2.toNatClampNeg) &&& 2) (No s (-7) r t) (cs (0 < s.2 7 (8 * sh s v1.toNatClampNeg + v2.toNatClampNeg) &&& 1) (No s (-11) r t) (Tk s (fun s' t => SetE s' v1.toNatClampNeg v2.toNatClampNeg MISS t) r t)))) (No s (-2) r t)
abbrev lnOf (s : Mem) (o f : Nat) : Nat := (s.2 10 (8 * o + f)).toNatClampNeg
def R_ins (s : Mem) (v1 v2 v w r : Int32) (t : Mem) : Prop := cs (hasF s v1 v2 ∧ iO s w) (cs (kOf s v1.toNatClampNeg v2.toNatClampNeg ≠ 2) (No s (-6) r t) (cs (lnOf s v1.toNatClampNeg v2.toNatClampNeg = 6 ∨ ∀ i, i ≤ lnOf s v1.toNatClampNeg v2.toNatClampNeg → v ≠ nI i) (No s (-8) r t) (cs (isOf s (nI (sh s w.toNatClampNeg)) (s.2 4 (8 * sh s v1.toNatClampNeg + v2.toNatClampNeg)) = false) (No s (-9) r t) (cs (loopC s v1.toNatClampNeg (8 * sh s v1.toNatClampNeg + v2.toNatClampNeg) w.toNatClampNeg) (No s (-10) r t) (Tk s (fun s' t => InsE s' v1.toNatClampNeg v2.toNatClampNeg (lnOf s v1.toNatClampNeg v2.toNatClampNeg) v.toNatClampNeg w t) r t))))) (No s (-2) r t)
def R_rem (s : Mem) (v1 v2 v r : Int32) (t : Mem) : Prop := cs (hasF s v1 v2) (cs (kOf s v1.toNatClampNeg v2.toNatClampNeg ≠ 2) (No s (-6) r t) (cs (∀ i, i < lnOf s v1.toNatClampNeg v2.toNatClampNeg → v ≠ nI i) (No s (-8) r t) (Tk s (fun s' t => RemE s' v1.toNatClampNeg v2.toNatClampNeg (lnOf s v1.toNatClampNeg v2.toNatClampNeg) v.toNatClampNeg t) r t))) (No s (-2) r t)
def R_srt (s : Mem) (v1 v2 v fl r : Int32) (t : Mem) : Prop := cs (hasF s v1 v2) (cs (kOf s v1.toNatClampNeg v2.toNatClampNeg ≠ 2) (No s (-6) r t) (cs (∀ g, g ≤ 7 → v ≠ nI g) (No s (-8) r t) (Tk s (fun s' t => SrtE s' v1.toNatClampNeg v2.toNatClampNeg v.toNatClampNeg (lnOf s v1.toNatClampNeg v2.toNatClampNeg) fl t) r t))) (No s (-2) r t)
/-- what the class's memory needs to be changed -/
def Ivs (s : Mem) : Prop := Sm s ∧ IvS s ∧ IvO s ∧ IvF s ∧ IvV s ∧ IvT s ∧ IvW s ∧ IvH s ∧ IvX s ∧ gsz s < 512
theorem Nc.rf {G : Gk} {g : Gm} {h : Hp} {s t : Mem} (R : RC G g h s) (c : Sc s t) : Nc G g h h t := ⟨g, ⟨R.1.co c.co, R.2.mv (Stq.rf g h (fun _ => True)) (fun _ _ => trivial) (ObE.of (c.1 8 rfl) (c.2 2 rfl) (c.2 3 rfl) (c.2 9 rfl)) ⟨fun q hq => c.1 q (by rcases hq with e | e | e | e | e <;> subst e <;> rfl), fun q hq => c.2 q (by rcases hq with e | e | e | e <;> subst e <;> rfl)⟩⟩, Stq.rf _ _ _, rfl⟩
theorem Nc.sc {G : Gk} {g : Gm} {h h' : Hp} {s t : Mem} (R : RC G g h s) (R1 : RB g h' s) (S : Stq g h nSc g h') (c : Sc s t) : Nc G g h h' t := ⟨g, ⟨R1.co c.co, R.2.mv S (fun r hr => by unfold nSc; omega) (ObE.of (c.1 8 rfl) (c.2 2 rfl) (c.2 3 rfl) (c.2 9 rfl)) ⟨fun q hq => c.1 q (by rcases hq with e | e | e | e | e <;> subst e <;> rfl), fun q hq => c.2 q (by rcases hq with e | e | e | e <;> subst e <;> rfl)⟩⟩, S.mo (fun r hr => by unfold nSc; omega), rfl⟩
theorem RC.st {G : Gk} {g g' : Gm} {h h' : Hp} {s : Mem} {D : Nat → Prop} (R : RC G g h s) (hm : Sm s) (S : Stq g h D g' h') (hd : ∀ r, r < 28 ∨ (100 ≤ r ∧ r < 1100) → D r) : RC G g' h' s := ⟨R.1.st hm S (fun r hr => hd r (by omega)), R.2.mv S (fun r hr => hd r (by omega)) (ObE.rf s) ⟨fun _ _ => rfl, fun _ _ => rfl⟩⟩
theorem Nc.tr {G : Gk} {g g1 : Gm} {h h1 h' : Hp} {t : Mem} (S : Stq g h (fun r => r = 0) g1 h1) (e : g1.2 2 = g.2 2) (N : Nc G g1 h1 h' t) : Nc G g h h' t := by
  obtain ⟨g', a, b, c⟩ := N
  exact ⟨g', a, S.tr b, c.trans e⟩
theorem hasF_i {s : Mem} {o j : Nat} (ho : o < nO s) (hj : j < nf s (sh s o)) : hasF s (nI o) (nI j) := ⟨o, j, ho, rfl, hj, rfl⟩
theorem sp_fe_set (G : Gk) {g : Gm} {h : Hp} {s : Mem} (R : RC G g h s) (iv : Ivs s) (v1 v2 v : Int32) : Ct G fe_set [.ref (g.2 2), .int v1, .int v2, .int v] h (pI fun r h' => ∀ r' t, R_set s v1 v2 v r' t → r = r' ∧ Nc G g h h' t) := by
  obtain ⟨hm, ivs, ivo, ivf, ivv, ivt, ivw, ivh, ivx, h512⟩ := iv
  have X := R.1.1
  have n60 := ivo.2.1
  refine Ct.ofL (M := fe_set) (lv := [some (.ref (g.2 2)), some (.int v1), some (.int v2), some (.int v), none]) mdf_fe_set rfl (Nat.le_of_ble_eq_true rfl) rfl ?_
  refine V_aload_n d_fe_set_0 rfl rfl ?_
  refine V_iload_n d_fe_set_1 rfl rfl ?_
  refine V_iload_n d_fe_set_2 rfl rfl ?_
  refine V_callV (N := fe_fieldOf) d_fe_set_3 ml_fe_152 mdf_fe_fieldOf wi_fe_fieldOf wz_fe_fieldOf (sp_fe_fieldOf G R.1 ivs ivo v1 v2) (by first | assumption | exact X.1 | exact hu_self _ _ _ | (simp (disch := first | assumption | (apply Ne.symm; assumption)) only [hu_self, hu_ne]; assumption)) ⟨_, rfl, rfl⟩ rfl rfl (by decide) (by decide) (Nat.le_of_ble_eq_true rfl) rfl rfl (kQ fun r3 h3 ⟨e3, z3⟩ => ?_)
  subst e3
  rcases z3 with ⟨no, rfl⟩ | ⟨o, f, c, ho, rfl, hf, rfl, im, rfl⟩
  · skip
    refine V_astoreN d_fe_set_6 (by decide) rfl rfl ?_
    dsimp only [List.set]
    refine V_aloadN d_fe_set_8 rfl ?_
    refine V_ifnonnullN d_fe_set_10 ?_
    refine V_bipush (v := -2) d_fe_set_13 (by decide) ?_
    refine V_ireturn d_fe_set_15 rfl ?_
    refine ⟨_, rfl, fun r' t hR => ?_⟩
    obtain ⟨w1, w2⟩ := hR.f no
    exact ⟨w1.symm, Nc.rf R w2⟩
  · skip
    refine V_astore d_fe_set_6 (by decide) rfl rfl ?_
    dsimp only [List.set]
    refine V_aload d_fe_set_8 rfl ?_
    refine V_ifnonnull d_fe_set_10 ?_
    have n8 := (ivs.2.2.1 _ (ivo.2.2 o ho).2).2
    have hR0 : ∀ r' t, R_set s (nI o) (nI f) v r' t → _ := fun r' t (hR : R_set s (nI o) (nI f) v r' t) => by unfold R_set at hR; rw [cl o (by omega), cl f (by omega)] at hR; exact hR.t (hasF_i ho hf)
    refine V_aload d_fe_set_16 rfl ?_
    refine V_getf d_fe_set_18 fl_fe_109 im.1 rfl ?_
    refine V_if_eq d_fe_set_21 (fun c21 => ?_) (fun c21 => ?_)
    · skip
      refine V_aload_n d_fe_set_27 rfl rfl ?_
      refine V_iload_n d_fe_set_28 rfl rfl ?_
      refine V_iload_n d_fe_set_29 rfl rfl ?_
      refine V_aload d_fe_set_30 rfl ?_
      refine V_callV (N := fe_isLocked) d_fe_set_32 ml_fe_220 mdf_fe_isLocked wi_fe_isLocked wz_fe_isLocked (sp_fe_isLocked G R.1 ivs ivo ivf ivv ho hf (by rw [c21]; decide) im) (by first | assumption | exact X.1 | exact hu_self _ _ _ | (simp (disch := first | assumption | (apply Ne.symm; assumption)) only [hu_self, hu_ne]; assumption)) ⟨_, rfl, rfl⟩ rfl rfl (by decide) (by decide) (Nat.le_of_ble_eq_true rfl) rfl rfl (kI fun r32 h32 ⟨e32, f32⟩ => ?_)
      subst e32 f32
      refine V_if_eq d_fe_set_35 (fun c35 => ?_) (fun c35 => ?_)
      · skip
        have hnl : ¬ lckM s o f := fun q => b01_e c35 ⟨(and2 _).mp q.1, q.2⟩
        refine V_iload_n d_fe_set_41 rfl rfl ?_
        refine V_aload d_fe_set_42 rfl ?_
        refine V_getf d_fe_set_44 fl_fe_112 im.1 rfl ?_
        refine V_icmp_lt d_fe_set_47 (fun c47 => ?_) (fun c47 => ?_)
        · skip
          refine V_bipush (v := -8) d_fe_set_59 (by decide) ?_
          refine V_ireturn d_fe_set_61 rfl ?_
          refine ⟨_, rfl, fun r' t hR => ?_⟩
          obtain ⟨w1, w2⟩ := (((hR0 r' t hR).f (fun q => q c21)).f hnl).t (fun q => absurd q.1 (Int32.not_le.mpr c47))
          exact ⟨w1.symm, Nc.rf R w2⟩
        · skip
          refine V_iload_n d_fe_set_50 rfl rfl ?_
          refine V_aload d_fe_set_51 rfl ?_
          refine V_getf d_fe_set_53 fl_fe_115 im.1 rfl ?_
          refine V_icmp_le d_fe_set_56 (fun c56 => ?_) (fun c56 => ?_)
          · skip
            have hrg : ¬ ¬ (s.2 4 (8 * sh s o + f) ≤ v ∧ v ≤ s.2 5 (8 * sh s o + f)) := fun q => q ⟨Int32.not_lt.mp c47, c56⟩
            refine V_aload_n d_fe_set_62 rfl rfl ?_
            refine V_iload_n d_fe_set_63 rfl rfl ?_
            refine V_iload_n d_fe_set_64 rfl rfl ?_
            refine V_iload_n d_fe_set_65 rfl rfl ?_
            refine V_callV (N := fe_isVetoed) d_fe_set_66 ml_fe_224 mdf_fe_isVetoed wi_fe_isVetoed wz_fe_isVetoed (sp_fe_isVetoed G R.1 ivs ivo ivw ho v) (by first | assumption | exact X.1 | exact hu_self _ _ _ | (simp (disch := first | assumption | (apply Ne.symm; assumption)) only [hu_self, hu_ne]; assumption)) ⟨_, rfl, rfl⟩ rfl rfl (by decide) (by decide) (Nat.le_of_ble_eq_true rfl) rfl rfl (kI fun r66 h66 ⟨e66, f66⟩ => ?_)
            subst e66 f66
            refine V_if_eq d_fe_set_69 (fun c69 => ?_) (fun c69 => ?_)
            · skip
              refine V_aload_n d_fe_set_75 rfl rfl ?_
              refine V_iload_n d_fe_set_76 rfl rfl ?_
              refine V_iload_n d_fe_set_77 rfl rfl ?_
              refine V_iconst (v := 1) d_fe_set_78 (by decide) ?_
              refine V.need (cr := (0 + 5) + 1) (sr := (0 + 1620) + 1) ?_ (by decide) (by decide)
              refine V_newI (M := fe_set) 1 d_fe_set_79 rfl (by omega) (fun q79 hq79 => ?_)
              refine V_dup d_fe_set_81 rfl ?_
              refine V_iconst (v := 0) d_fe_set_82 (by decide) ?_
              refine V_iload_n d_fe_set_83 rfl rfl ?_
              refine V_iast 0 d_fe_set_84 (hu_self _ _ _) rfl (by omega) (by rw [List.length_replicate]; omega) ?_
              rw [hu_hu, show (List.replicate 1 (Value.int 0)).set 0 (.int v) = arrL 1 (fun _ => v) from rfl]
              have S1 : Stq g h (fun _ => True) (ui g q79) (hu h q79 (20, arrL 1 (fun _ => v))) := Stq.freshI hq79 _ _
              have R1 : RC G (ui g q79) (hu h q79 (20, arrL 1 (fun _ => v))) s := R.st hm S1 (fun _ _ => trivial)
              refine V_callV (N := fe_take) d_fe_set_85 ml_fe_228 mdf_fe_take wi_fe_take wz_fe_take (sp_fe_take G R1 hm ivs ivo ivw ivf ivv ivh ivx h512 ho hf (by rw [c21]; decide) ⟨fun _ => rfl, fun _ => rfl, fun _ => by decide⟩ (Im.fresh g h q79 _)) (X.st S1 trivial (fun _ _ _ => rfl)).1 ⟨_, rfl, rfl⟩ rfl rfl (by decide) (by decide) (Nat.le_of_ble_eq_true rfl) rfl rfl (kI fun r85 h85 ⟨e85, p85⟩ => ?_)
              refine V_ireturn d_fe_set_88 rfl ?_
              refine ⟨_, rfl, fun r' t hR => ?_⟩
              obtain ⟨w1, s', w2, w3⟩ := ((((hR0 r' t hR).f (fun q => q c21)).f hnl).f hrg).f (b01_e c69)
              have es : sh s' = sh s := by funext x; unfold sh; rw [w2.2 9 rfl]
              exact ⟨by rw [e85, w1], Nc.tr (S1.mo (fun _ _ => trivial)) rfl (p85 s' t w2 (SetE.tk (Or.inl (by rw [es, w2.2 3 rfl]; exact c21)) w3))⟩
            · skip
              refine V_bipush (v := -12) d_fe_set_72 (by decide) ?_
              refine V_ireturn d_fe_set_74 rfl ?_
              refine ⟨_, rfl, fun r' t hR => ?_⟩
              obtain ⟨w1, w2⟩ := ((((hR0 r' t hR).f (fun q => q c21)).f hnl).f hrg).t (b01_ne c69)
              exact ⟨w1.symm, Nc.rf R w2⟩
          · skip
            refine V_bipush (v := -8) d_fe_set_59 (by decide) ?_
            refine V_ireturn d_fe_set_61 rfl ?_
            refine ⟨_, rfl, fun r' t hR => ?_⟩
            obtain ⟨w1, w2⟩ := (((hR0 r' t hR).f (fun q => q c21)).f hnl).t (fun q => c56 q.2)
            exact ⟨w1.symm, Nc.rf R w2⟩
      · skip
        refine V_bipush (v := -7) d_fe_set_38 (by decide) ?_
        refine V_ireturn d_fe_set_40 rfl ?_
        refine ⟨_, rfl, fun r' t hR => ?_⟩
        have hl := b01_ne c35
        obtain ⟨w1, w2⟩ := ((hR0 r' t hR).f (fun q => q c21)).t ⟨(and2 _).mpr hl.1, hl.2⟩
        exact ⟨w1.symm, Nc.rf R w2⟩
    · skip
      refine V_bipush (v := -6) d_fe_set_24 (by decide) ?_
      refine V_ireturn d_fe_set_26 rfl ?_
      refine ⟨_, rfl, fun r' t hR => ?_⟩
      obtain ⟨w1, w2⟩ := (hR0 r' t hR).t c21
      exact ⟨w1.symm, Nc.rf R w2⟩
