/-! object -/
/-- a thing with its rows: shape v, n rows of lengths N f and contents F f -/
def NwT (g : Gm) (h : Hp) (o t : Nat) (v : Int32) (n : Nat) (N : Nat → Nat) (F : Nat → Nat → Int32) : Prop := Im g h t (10, [.int v, .ref (g.2 (300 + o))]) ∧ ∃ W, W.length = n ∧ Cl g h (300 + o) (28, W) ∧ ∀ f, f < n → ∃ a, W[f]? = some (.ref a) ∧ Im g h a (20, arrL (N f) (F f))
theorem NwT.st {g g' : Gm} {h h' : Hp} {D : Nat → Prop} {o t : Nat} {v : Int32} {n : Nat} {N : Nat → Nat} {F : Nat → Nat → Int32} (H : NwT g h o t v n N F) (S : Stq g h D g' h') (h1 : D 1) (h3 : D (300 + o)) : NwT g' h' o t v n N F := by
  obtain ⟨q1, W, q2, q3, q4⟩ := H
  refine ⟨?_, W, q2, q3.st S h3, fun f hf => ?_⟩
  · rw [S.2 _ h3]; exact q1.st S h1
  · obtain ⟨a, a1, a2⟩ := q4 f hf
    exact ⟨a, a1, a2.st S h1⟩
def R_obj (s : Mem) (v : Int32) (r : Int32) (t : Mem) : Prop := cs (iS s v) (cs (nO s = 60) (r = -4 ∧ Sc s t) (r = nI (nO s) ∧ mkE s v.toNatClampNeg t)) (r = -2 ∧ Sc s t)
theorem RB.mk {g g' : Gm} {h h' : Hp} {s t : Mem} (R : RB g h s) (ivs : IvS s) (ivo : IvO s) (hm : Sm s) {i q : Nat} {T : List Value} (hi : i < nS s) (hn : nO s < 60) (hT : T.length = 60) (t3 : ∀ o, o < nO s → ∃ t, T[o]? = some (.ref t) ∧ Im g h t (10, [.int (s.2 9 o), .ref (g.2 (300 + o))]) ∧ ∃ R, POi g h s o R) (hE : mkE s i t)
    (S : Stq g h (fun r => r ≠ 2 ∧ r ≠ 4 ∧ r ≠ 300 + nO s ∧ r ≠ 100 + i) g' h') (gr : ∀ r, r ≠ 300 + nO s → g'.2 r = g.2 r) (c2 : Cl g' h' 2 (12, xfs g (s.1 0) (nI (nO s + 1)) (s.1 33) (s.1 25))) (c4 : Cl g' h' 4 (25, T.set (nO s) (.ref q)))
    (ci : Cl g' h' (100 + i) (8, [.int (s.2 1 i), .ref (g.2 (200 + i)), .int (s.2 2 i), .int 1])) (nt : NwT g' h' (nO s) q (nI i) (nf s i) (fun f => if s.2 3 (8 * i + f) = 0 ∨ s.2 3 (8 * i + f) = 1 then 1 else 0) (fun _ _ => MISS)) (ivf : IvF s) : Nx g h h' t := by
  obtain ⟨RX, ⟨L0, lq1, lq2, lq3⟩, RO, RP, RW, RZ⟩ := R
  have n10 := ivs.2.1
  have n60 := ivo.2.1
  have n8 := (ivs.2.2.1 i hi).2
  obtain ⟨t0, ⟨e1, e9, e2, e10, e10b⟩, rfl⟩ := hE
  have h2 : ∀ q, q ≠ 9 → q ≠ 10 → (mF t0 8 (nI (nO s + 1))).2 q = s.2 q := fun q q1 q2 => by rw [mF_2]; exact e2 q q1 q2
  have h9 : (mF t0 8 (nI (nO s + 1))).2 9 = upd (s.2 9) (nO s) (nI i) := by rw [mF_2]; exact e9
  have h10 : ∀ x, x < 8 * nO s → (mF t0 8 (nI (nO s + 1))).2 10 x = s.2 10 x := fun x hx => by rw [mF_2]; exact e10 x (Or.inl hx)
  have h10b : ∀ y, y < 8 → (mF t0 8 (nI (nO s + 1))).2 10 (8 * nO s + y) = if y < nf s i ∧ s.2 3 (8 * i + y) = 2 then 0 else MISS := fun y hy => by rw [mF_2]; exact e10b y hy
  have e1' : ∀ q, q ≠ 8 → (mF t0 8 (nI (nO s + 1))).1 q = s.1 q := by intro q hq; rw [mF_1n _ _ hq, e1]
  have enS : nS (mF t0 8 (nI (nO s + 1))) = nS s := by unfold nS; rw [e1' 0 (by omega)]
  have enO : nO (mF t0 8 (nI (nO s + 1))) = nO s + 1 := by unfold nO; rw [mF_1s]; exact cl _ (by unfold nO at n60; omega)
  have enP : nP (mF t0 8 (nI (nO s + 1))) = nP s := by unfold nP; rw [e1' 33 (by omega)]
  have enf : nf (mF t0 8 (nI (nO s + 1))) = nf s := by funext x; unfold nf; rw [h2 2 (by omega) (by omega)]
  have esh : ∀ o, o ≠ nO s → sh (mF t0 8 (nI (nO s + 1))) o = sh s o := by intro o ho; unfold sh; rw [h9, pk_un ho]
  have eshn : sh (mF t0 8 (nI (nO s + 1))) (nO s) = i := by unfold sh; rw [h9, pk_us]; exact cl i (by omega)
  have hfd : ∀ x j, fdS (mF t0 8 (nI (nO s + 1))) x j = fdS s x j := by
    intro x j
    unfold fdS
    rw [h2 3 (by omega) (by omega), h2 4 (by omega) (by omega), h2 5 (by omega) (by omega), h2 6 (by omega) (by omega), h2 7 (by omega) (by omega)]
  have hu1 : ∀ x, x < nS s → (uS (mF t0 8 (nI (nO s + 1))) x ↔ uS s x ∨ x = i) := by
    intro x hx
    unfold uS
    rw [enS, enO, h2 1 (by omega) (by omega), h9]
    constructor
    · rintro (y | ⟨y, y1, y2⟩)
      · exact Or.inl (Or.inl y)
      · by_cases z : y = nO s
        · rw [z, pk_us] at y2; exact Or.inr (nI_inj8 (by omega) (by omega) y2).symm
        · rw [pk_un z] at y2; exact Or.inl (Or.inr ⟨y, by omega, y2⟩)
    · rintro ((y | ⟨y, y1, y2⟩) | y)
      · exact Or.inl y
      · exact Or.inr ⟨y, by omega, by rw [pk_un (by omega)]; exact y2⟩
      · exact Or.inr ⟨nO s, by omega, by rw [pk_us, y]⟩
  refine ⟨g', ⟨?_, ?_, ?_, ?_, ?_, ?_⟩, S.mo (fun r hr => by unfold KH at hr; omega), gr 2 (by omega)⟩
  · unfold PX
    rw [e1' 0 (by omega), e1' 33 (by omega), e1' 25 (by omega), mF_1s, gr 3 (by omega), gr 4 (by omega), gr 5 (by omega), gr 6 (by omega), gr 7 (by omega), gr 8 (by omega), gr 9 (by omega), gr 12 (by omega), gr 16 (by omega), gr 17 (by omega)]
    exact c2
  · refine ⟨L0, lq1, lq2.st S (by omega), fun x hx => ?_⟩
    rw [enS] at hx
    refine ⟨by rw [gr (100 + x) (by omega)]; exact (lq3 x hx).1, ?_, ?_⟩
    · rw [h2 1 (by omega) (by omega), h2 2 (by omega) (by omega), gr (200 + x) (by omega)]
      by_cases z : x = i
      · subst z
        rw [b01_t ((hu1 x hx).mpr (Or.inr rfl))]
        exact ci
      · rw [b01_i ((hu1 x hx).trans ⟨fun y => y.elim id (fun y => absurd y z), Or.inl⟩)]
        exact (lq3 x hx).2.1.st S (by omega)
    · exact ((lq3 x hx).2.2.st S (by omega) (by omega)).sub (by rw [enf]; exact Nat.le_refl _) (fun j hj => hfd x j)
  · refine ⟨_, by rw [List.length_set]; exact hT, c4, fun o ho => ?_⟩
    rw [enO] at ho
    by_cases z : o = nO s
    · subst z
      obtain ⟨b1, W, b2, b3, b4⟩ := nt
      refine ⟨q, List.getElem?_set_self (by omega), by rw [h9, pk_us]; exact b1, W, by rw [eshn, enf]; exact b2, b3, fun f hf => ?_⟩
      rw [eshn, enf] at hf
      obtain ⟨a, a1, a2⟩ := b4 f hf
      refine ⟨a, a1, ?_⟩
      have k1 : rowN (mF t0 8 (nI (nO s + 1))) (nO s) f = if s.2 3 (8 * i + f) = 0 ∨ s.2 3 (8 * i + f) = 1 then 1 else 0 := by
        unfold rowN rwN
        rw [eshn, h2 3 (by omega) (by omega), h10b f (by omega)]
        rcases ivf i hi f hf with y | ⟨y | y, _⟩ | ⟨y, _⟩
        · rw [y]; rfl
        · rw [y]; rfl
        · rw [y, if_pos rfl, if_pos ⟨hf, rfl⟩]; rfl
        · rw [y]; rfl
      have k2 : arrL (rowN (mF t0 8 (nI (nO s + 1))) (nO s) f) (rowF (mF t0 8 (nI (nO s + 1))) (nO s) f) = arrL (if s.2 3 (8 * i + f) = 0 ∨ s.2 3 (8 * i + f) = 1 then 1 else 0) (fun _ => MISS) := by
        rw [k1]
        refine arrL_congr (fun j hj => ?_)
        by_cases y : s.2 3 (8 * i + f) = 0 ∨ s.2 3 (8 * i + f) = 1
        · unfold rowF rwF
          have hk2 : ¬ s.2 3 (8 * i + f) = 2 := by intro w; rw [w] at y; exact y.elim (by decide) (by decide)
          rw [eshn, h2 3 (by omega) (by omega), h10b f (by omega), if_neg hk2, if_neg (fun w => hk2 w.2)]
        · rw [if_neg y] at hj; omega
      rw [k2]
      exact a2
    · have ho' : o < nO s := by omega
      obtain ⟨b, b1, b2, W, b3, b4, b5⟩ := t3 o ho'
      refine ⟨b, by rw [List.getElem?_set_ne (by omega)]; exact b1, ?_, W, by rw [esh o z, enf]; exact b3, b4.st S (by omega), fun f hf => ?_⟩
      · rw [h9, pk_un z, gr (300 + o) (by omega)]
        exact b2.st S (by omega)
      · rw [esh o z, enf] at hf
        have n8' := (ivs.2.2.1 _ (ivo.2.2 o ho').2).2
        obtain ⟨a, a1, a2⟩ := b5 f hf
        refine ⟨a, a1, ?_⟩
        have k1 : rowN (mF t0 8 (nI (nO s + 1))) o f = rowN s o f := by unfold rowN; rw [esh o z, h2 3 (by omega) (by omega), h10 _ (by omega)]
        have k2 : rowF (mF t0 8 (nI (nO s + 1))) o f = rowF s o f := by unfold rowF; rw [esh o z, h2 3 (by omega) (by omega), h10 _ (by omega), h2 11 (by omega) (by omega)]
        rw [k1, k2]
        exact a2.st S (by omega)
  · exact (RP.st hm.2.2.1 S (by omega) (fun r _ _ => by omega)).co enP (fun p _ => ⟨by rw [h2 34 (by omega) (by omega)], fun j _ => ⟨by rw [h2 35 (by omega) (by omega)], by rw [h2 36 (by omega) (by omega)]⟩⟩)
  · exact (RW.st hm.2.2.2 S (by omega) (fun r _ _ => by omega)).co (e1' 25 (by omega)) (h2 26 (by omega) (by omega)) (h2 27 (by omega) (by omega)) (h2 28 (by omega) (by omega)) (h2 29 (by omega) (by omega)) (h2 30 (by omega) (by omega)) (h2 31 (by omega) (by omega))
  · exact RZ.st S (fun r _ _ => by omega)
theorem lp_obj (G : Gk) {s : Mem} {ga : Gm} {ha : Hp} {i m x q : Nat} {ab v : Int32} {sa : Nat} (hsa : ga.2 (100 + i) = sa) (n8 : nf s i ≤ 8) (i10 : i < 10) (Ci : Cl ga ha (100 + i) (8, [.int ab, .ref (ga.2 (200 + i)), .int (nI (nf s i)), .int 1])) (F : PSf ga ha s i) (T : Im ga ha q (10, [.int v, .ref (ga.2 (300 + m))])) (post : Option Value → Hp → Prop)
    (K : ∀ (g1 : Gm) (h1 : Hp) (l4 : Option Value), Stq ga ha (fun r => r ≠ 300 + m) g1 h1 → g1.2 = ga.2 → NwT g1 h1 m q v (nf s i) (fun f => if s.2 3 (8 * i + f) = 0 ∨ s.2 3 (8 * i + f) = 1 then 1 else 0) (fun _ _ => MISS) → V G fe_object post h1 0 0 83 [some (.ref x), some (.int v), some (.ref sa), some (.ref q), l4] []) :
    ∀ (c f : Nat) (g1 : Gm) (h1 : Hp) (W : List Value), f + c = nf s i → Stq ga ha (fun r => r ≠ 300 + m) g1 h1 → g1.2 = ga.2 → W.length = nf s i → Cl g1 h1 (300 + m) (28, W) → (∀ f', f' < f → ∃ a, W[f']? = some (.ref a) ∧ Im g1 h1 a (20, arrL (if s.2 3 (8 * i + f') = 0 ∨ s.2 3 (8 * i + f') = 1 then 1 else 0) (fun _ => MISS))) →
    V G fe_object post h1 c c 51 [some (.ref x), some (.int v), some (.ref sa), some (.ref q), some (.int (nI f))] [] := by
  intro c
  induction c with
  | zero =>
    intro f g1 h1 W hf S e2 hW cW hA
    obtain rfl : f = nf s i := by omega
    have Ci1 := Ci.st S (by omega)
    have hCi : h1 sa = some (8, [.int ab, .ref (ga.2 (200 + i)), .int (nI (nf s i)), .int 1]) := by have := Ci1.1; rw [e2, hsa] at this; exact this
    refine V_iload d_fe_object_51 rfl ?_
    refine V_aload_n d_fe_object_53 rfl rfl ?_
    refine V_getf d_fe_object_54 fl_fe_120 hCi rfl ?_
    refine V_icmp_ge d_fe_object_57 (fun c57 => ?_) (fun c57 => ?_)
    · skip
      exact K g1 h1 _ S e2 ⟨by rw [e2]; exact T.st S (by omega), W, hW, cW, hA⟩
    · skip
      exact absurd (ltN c57 (by omega)) (by omega)
  | succ c ih =>
    intro f g1 h1 W hf S e2 hW cW hA
    have Ci1 := Ci.st S (by omega)
    have hCi : h1 sa = some (8, [.int ab, .ref (ga.2 (200 + i)), .int (nI (nf s i)), .int 1]) := by have := Ci1.1; rw [e2, hsa] at this; exact this
    obtain ⟨L2, m1, m2, m3⟩ := F.st S (by omega) (by omega)
    rw [Cl, e2] at m2
    obtain ⟨af, x1, x2⟩ := m3 f (by omega)
    have T1 := T.st S (by omega)
    have cW' : h1 (ga.2 (300 + m)) = some (28, W) := by have := cW.1; rw [e2] at this; exact this
    refine V_iload d_fe_object_51 rfl ?_
    refine V_aload_n d_fe_object_53 rfl rfl ?_
    refine V_getf d_fe_object_54 fl_fe_120 hCi rfl ?_
    refine V_icmp_ge d_fe_object_57 (fun c57 => ?_) (fun c57 => ?_)
    · skip
      exact absurd (geN c57 (by omega)) (by omega)
    · skip
      refine V_aload_n d_fe_object_60 rfl rfl ?_
      refine V_getf d_fe_object_61 fl_fe_140 T1.1 rfl ?_
      refine V_iload d_fe_object_64 rfl ?_
      refine V_aload_n d_fe_object_66 rfl rfl ?_
      refine V_getf d_fe_object_67 fl_fe_144 hCi rfl ?_
      refine V_iload d_fe_object_70 rfl ?_
      refine V_aald f d_fe_object_72 m2.1 (by decide) (by decide) rfl (by omega) x1 ?_
      refine V_callV (N := fd_firstRow) d_fe_object_73 ml_fe_148 mdf_fd_firstRow wi_fd_firstRow wz_fd_firstRow (sp_fd_firstRow G x2.1) x2.1 ⟨_, rfl, rfl⟩ rfl rfl (by decide) (by decide) (Nat.le_of_ble_eq_true rfl) rfl rfl (kR fun r73 h73 ⟨e73, f73⟩ => ?_)
      subst f73
      refine V_aastA f d_fe_object_76 (by rw [hu_ne _ _ (fne cW' e73)]; exact cW') (hu_self _ _ _) rfl (by omega) (by omega) ov_AI ?_
      refine V_iinc (v := _) d_fe_object_77 rfl rfl (by decide) rfl rfl ?_
      dsimp only [List.set]
      refine V_goto d_fe_object_80 ?_
      rw [show Int32.ofInt 1 = 1 from rfl, nI_1]
      have S2 : Stq g1 h1 (fun r => r ≠ 300 + m) (ui g1 r73) (hu h1 r73 (20, arrL (if s.2 3 (8 * i + f) = 0 ∨ s.2 3 (8 * i + f) = 1 then 1 else 0) (fun _ => MISS))) := Stq.freshI e73 _ _
      have S2' : Stq g1 h1 (fun _ => True) (ui g1 r73) (hu h1 r73 (20, arrL (if s.2 3 (8 * i + f) = 0 ∨ s.2 3 (8 * i + f) = 1 then 1 else 0) (fun _ => MISS))) := Stq.freshI e73 _ _
      have cW2 := cW.st S2' trivial
      have S3 := Stq.put (h := hu h1 r73 (20, arrL (if s.2 3 (8 * i + f) = 0 ∨ s.2 3 (8 * i + f) = 1 then 1 else 0) (fun _ => MISS))) cW2.2 (28, W.set f (.ref r73))
      have cW3 := Cl.put (h := hu h1 r73 (20, arrL (if s.2 3 (8 * i + f) = 0 ∨ s.2 3 (8 * i + f) = 1 then 1 else 0) (fun _ => MISS))) cW2.2 (28, W.set f (.ref r73))
      have e2' : (ui g1 r73).2 (300 + m) = ga.2 (300 + m) := by show g1.2 _ = _; rw [e2]
      rw [e2'] at S3 cW3
      refine ih (f + 1) (ui g1 r73) _ (W.set f (.ref r73)) (by omega) ((S.tr S2).tr S3) e2 (by rw [List.length_set]; exact hW) cW3 (fun f' hf' => ?_)
      by_cases z : f' = f
      · (subst z; exact ⟨r73, List.getElem?_set_self (by omega), (Im.fresh _ _ _ _).st S3 (by omega)⟩)
      · (obtain ⟨a, a1, a2⟩ := hA f' (by omega); exact ⟨a, by rw [List.getElem?_set_ne (by omega)]; exact a1, (a2.st S2 (by omega)).st S3 (by omega)⟩)
theorem tl_obj (G : Gk) {g : Gm} {h1 : Hp} {n q : Nat} {v a c d : Int32} {l2 l4 : Option Value} {T ws : List Value} (hX : h1 (g.2 2) = some (12, xfs g a (nI n) c d)) (h4 : h1 (g.2 4) = some (25, T)) (hq : h1 q = some (10, ws)) (hT : T.length = 60) (hn : n < 60) :
    V G fe_object (pI fun r h' => r = nI n ∧ h' = hu (hu h1 (g.2 4) (25, T.set n (.ref q))) (g.2 2) (12, xfs g a (nI (n + 1)) c d)) h1 0 0 83 [some (.ref (g.2 2)), some (.int v), l2, some (.ref q), l4] [] := by
  have n23 : g.2 2 ≠ g.2 4 := kne hX h4 (by decide)
  have hX2 : hu h1 (g.2 4) (25, T.set n (.ref q)) (g.2 2) = some (12, xfs g a (nI n) c d) := by rw [hu_ne _ _ n23]; exact hX
  refine V_aload_n d_fe_object_83 rfl rfl ?_
  refine V_getf d_fe_object_84 fl_fe_17 (by first | assumption | exact X.1 | exact hu_self _ _ _ | (simp (disch := first | assumption | (apply Ne.symm; assumption)) only [hu_self, hu_ne]; assumption)) rfl ?_
  refine V_aload_n d_fe_object_87 rfl rfl ?_
  refine V_getf d_fe_object_88 fl_fe_134 (by first | assumption | exact X.1 | exact hu_self _ _ _ | (simp (disch := first | assumption | (apply Ne.symm; assumption)) only [hu_self, hu_ne]; assumption)) rfl ?_
  refine V_aload_n d_fe_object_91 rfl rfl ?_
  refine V_aast n d_fe_object_92 h4 hq rfl rfl (by omega) (by omega) ?_
  refine V_aload_n d_fe_object_93 rfl rfl ?_
  refine V_dup d_fe_object_94 rfl ?_
  refine V_getf d_fe_object_95 fl_fe_134 (by first | assumption | exact X.1 | exact hu_self _ _ _ | (simp (disch := first | assumption | (apply Ne.symm; assumption)) only [hu_self, hu_ne]; assumption)) rfl ?_
  refine V_dup_x1 d_fe_object_98 rfl rfl ?_
  refine V_iconst (v := 1) d_fe_object_99 (by decide) ?_
  refine V_iadd d_fe_object_100 ?_
  rw [nI_1]
  refine V_putf d_fe_object_101 fp_fe_134 rfl rfl (by first | assumption | exact X.1 | exact hu_self _ _ _ | (simp (disch := first | assumption | (apply Ne.symm; assumption)) only [hu_self, hu_ne]; assumption)) ?_
  refine V_ireturn d_fe_object_104 rfl ?_
  exact ⟨_, rfl, rfl, rfl⟩
theorem sp_fe_object (G : Gk) {g : Gm} {h : Hp} {s : Mem} (R : RB g h s) (ivs : IvS s) (ivo : IvO s) (ivf : IvF s) (hm : Sm s) (v : Int32) : Ct G fe_object [.ref (g.2 2), .int v] h (pI fun r h' => ∀ r' t, R_obj s v r' t → r = r' ∧ Nx g h h' t) := by
  have X := R.1
  obtain ⟨L, l1, l2, l3⟩ := R.2.1
  obtain ⟨T, t1, t2, t3⟩ := R.2.2.1
  have n10 := ivs.2.1
  have n60 := ivo.2.1
  have hX0 : h (g.2 2) = some (12, xfs g (s.1 0) (nI (nO s)) (s.1 33) (s.1 25)) := by have := X.1; rw [ivo.1] at this; exact this
  refine Ct.ofL (M := fe_object) (lv := [some (.ref (g.2 2)), some (.int v), none, none, none]) mdf_fe_object rfl (Nat.le_of_ble_eq_true rfl) rfl ?_
  refine V_aload_n d_fe_object_0 rfl rfl ?_
  refine V_iload_n d_fe_object_1 rfl rfl ?_
  refine V_callV (N := fe_isShape) d_fe_object_2 ml_fe_68 mdf_fe_isShape wi_fe_isShape wz_fe_isShape (sp_fe_isShape G X ivs _) (by first | assumption | exact X.1 | exact hu_self _ _ _ | (simp (disch := first | assumption | (apply Ne.symm; assumption)) only [hu_self, hu_ne]; assumption)) ⟨_, rfl, rfl⟩ rfl rfl (by decide) (by decide) (Nat.le_of_ble_eq_true rfl) rfl rfl (kI fun r2 h2 ⟨e2, f2⟩ => ?_)
  subst e2 f2
  refine V_if_ne d_fe_object_5 (fun c5 => ?_) (fun c5 => ?_)
  · skip
    refine V_aload_n d_fe_object_11 rfl rfl ?_
    refine V_getf d_fe_object_12 fl_fe_134 hX0 rfl ?_
    refine V_bipush (v := 60) d_fe_object_15 (by decide) ?_
    refine V_icmp_lt d_fe_object_17 (fun c17 => ?_) (fun c17 => ?_)
    · skip
      have hlt : nO s < 60 := by rcases Nat.lt_or_ge (nO s) 60 with z | z; exact z; exact absurd c17 (by rw [show nO s = 60 by omega]; decide)
      obtain ⟨i, hi, rfl⟩ := b01_ne c5
      have n8 := (ivs.2.2.1 i hi).2
      have hs1 := (l3 i hi).2.at ivs hi
      have Ci0 := (l3 i hi).2.1
      refine V_aload_n d_fe_object_23 rfl rfl ?_
      refine V_getf d_fe_object_24 fl_fe_11 (by first | assumption | exact X.1 | exact hu_self _ _ _ | (simp (disch := first | assumption | (apply Ne.symm; assumption)) only [hu_self, hu_ne]; assumption)) rfl ?_
      refine V_iload_n d_fe_object_27 rfl rfl ?_
      refine V_aald i d_fe_object_28 l2.1 (by decide) (by decide) rfl (by omega) (l3 i hi).1 ?_
      refine V_astore_n d_fe_object_29 rfl (by decide) rfl rfl ?_
      dsimp only [List.set]
      refine V_aload_n d_fe_object_30 rfl rfl ?_
      refine V_iconst (v := 1) d_fe_object_31 (by decide) ?_
      refine V_putf d_fe_object_32 fp_fe_83 rfl rfl hs1 ?_
      refine V.need (cr := (nf s i + 1) + 1) (sr := (nf s i + 8) + 2) ?_ (by show nf s i + 1 + 1 ≤ 10; omega) (by show nf s i + 8 + 2 ≤ 18; omega)
      refine V_new (M := fe_object) d_fe_object_35 nw_fe_15 (fun q35 hq35 => ?_)
      refine V_dup d_fe_object_38 rfl ?_
      refine V_iload_n d_fe_object_39 rfl rfl ?_
      refine V_aload_n d_fe_object_40 rfl rfl ?_
      refine V_getf d_fe_object_41 fl_fe_120 (by rw [hu_ne _ _ (fne (hu_self _ _ _) hq35), hu_self]) rfl ?_
      refine V_callI (N := th_init) d_fe_object_44 ml_fe_137 mdf_th_init wi_th_init rfl rfl (sp_th_init G (hu_self _ _ _) (nI i) n8) rfl rfl (by decide) (by decide) (Nat.le_of_ble_eq_true rfl) rfl rfl (kN fun h44 ⟨q2, hq2, e44⟩ => ?_)
      have nqq : q35 ≠ q2 := fun z => by rw [← z, hu_self] at hq2; cases hq2
      rw [hu_ne _ _ (Ne.symm nqq)] at hq2
      have e44' : h44 = hu (hu (hu h (g.2 (100 + i)) (8, [.int (s.2 1 i), .ref (g.2 (200 + i)), .int (nI (nf s i)), .int 1])) q2 (28, List.replicate (nf s i) .null)) q35 (10, [.int (nI i), .ref q2]) := by rw [e44]; funext z; unfold hu; split; rfl; split; rfl; rfl
      subst e44'
      refine V_astore_n d_fe_object_47 rfl (by decide) rfl rfl ?_
      dsimp only [List.set]
      refine V_iconst (v := 0) d_fe_object_48 (by decide) ?_
      refine V_istore d_fe_object_49 (by decide) rfl rfl ?_
      dsimp only [List.set]
      have S1 := Stq.put (h := h) Ci0.2 (8, [.int (s.2 1 i), .ref (g.2 (200 + i)), .int (nI (nf s i)), .int 1])
      have C1 := Cl.put (h := h) Ci0.2 (8, [.int (s.2 1 i), .ref (g.2 (200 + i)), .int (nI (nf s i)), .int 1])
      have S2 := Stq.fresh (g := g) hq2 (300 + nO s) (28, List.replicate (nf s i) .null)
      have C2 := Cl.fresh g (hu h (g.2 (100 + i)) (8, [.int (s.2 1 i), .ref (g.2 (200 + i)), .int (nI (nf s i)), .int 1])) q2 (300 + nO s) (28, List.replicate (nf s i) .null)
      have hq35' : hu (hu h (g.2 (100 + i)) (8, [.int (s.2 1 i), .ref (g.2 (200 + i)), .int (nI (nf s i)), .int 1])) q2 (28, List.replicate (nf s i) .null) q35 = none := by rw [hu_ne _ _ nqq]; exact hq35
      have S3 := Stq.freshI (g := ug g q2 (300 + nO s)) hq35' (fun _ => True) (10, [.int (nI i), .ref q2])
      have I3 := Im.fresh (ug g q2 (300 + nO s)) (hu (hu h (g.2 (100 + i)) (8, [.int (s.2 1 i), .ref (g.2 (200 + i)), .int (nI (nf s i)), .int 1])) q2 (28, List.replicate (nf s i) .null)) q35 (10, [.int (nI i), .ref q2])
      have g2 : ∀ r, r ≠ 300 + nO s → (ui (ug g q2 (300 + nO s)) q35).2 r = g.2 r := fun r r1 => ug_2n _ _ r1
      have gq : (ui (ug g q2 (300 + nO s)) q35).2 (300 + nO s) = q2 := ug_2 _ _ _
      have Ca := (C1.st S2 (by omega)).st S3 trivial
      have Fa := (((l3 i hi).2.2.st S1 (by omega) (by omega)).st S2 (by omega) (by omega)).st S3 trivial trivial
      refine lp_obj G (ga := ui (ug g q2 (300 + nO s)) q35) (m := nO s) (g2 (100 + i) (by omega)) n8 (by omega) (by rw [g2 (200 + i) (by omega)]; exact Ca) Fa (by rw [gq]; exact I3) _ (fun g1 h1 l4 Sl e2 nt => ?_) (nf s i) 0 _ _ (List.replicate (nf s i) .null) (by omega) (Stq.rf _ _ _) rfl (List.length_replicate) (C2.st S3 trivial) (fun f' hf' => by omega)
      have Sall : Stq g h (fun r => r ≠ 300 + nO s ∧ r ≠ 100 + i) g1 h1 := (((S1.mo (fun r hr => hr.2)).tr (S2.mo (fun r hr => hr.1))).tr (S3.mo (fun _ _ => trivial))).tr (Sl.mo (fun r hr => hr.1))
      have g1r : ∀ r, r ≠ 300 + nO s → g1.2 r = g.2 r := fun r r1 => by rw [e2]; exact g2 r r1
      have Cx1 := Cl.st X Sall ⟨by omega, by omega⟩
      have C41 := t2.st Sall ⟨by omega, by omega⟩
      have hX1 : h1 (g.2 2) = some (12, xfs g (s.1 0) (nI (nO s)) (s.1 33) (s.1 25)) := by have := Cx1.1; rw [g1r 2 (by omega), ivo.1] at this; exact this
      have h41 : h1 (g.2 4) = some (25, T) := by have := C41.1; rw [g1r 4 (by omega)] at this; exact this
      refine (tl_obj G hX1 h41 nt.1.1 t1 hlt).mono (fun x h' hp => ?_)
      obtain ⟨r, e, er, eh⟩ := hp
      refine ⟨r, e, fun r' t hR => ?_⟩
      obtain ⟨w1, w2⟩ := (hR.t ⟨i, hi, rfl⟩).f (by omega)
      rw [cl i (by omega)] at w2
      refine ⟨by rw [er, w1], ?_⟩
      have S5 := Stq.put (h := h1) C41.2 (25, T.set (nO s) (.ref q35))
      have C5 := Cl.put (h := h1) C41.2 (25, T.set (nO s) (.ref q35))
      have Cx2 := Cx1.st S5 (by omega)
      rw [g1r 4 (by omega)] at S5 C5 Cx2
      have S6 := Stq.put (h := hu h1 (g.2 4) (25, T.set (nO s) (.ref q35))) Cx2.2 (12, xfs g (s.1 0) (nI (nO s + 1)) (s.1 33) (s.1 25))
      have Cx3 := Cl.put (h := hu h1 (g.2 4) (25, T.set (nO s) (.ref q35))) Cx2.2 (12, xfs g (s.1 0) (nI (nO s + 1)) (s.1 33) (s.1 25))
      rw [g1r 2 (by omega), ← eh] at S6 Cx3
      have Cif := ((Ca.st Sl (by omega)).st S5 (by omega)).st S6 (by omega)
      rw [← (ivs.2.2.1 i hi).1] at Cif
      exact R.mk ivs ivo hm hi hlt t1 t3 w2 ((Sall.mo (fun r hr => ⟨hr.2.2.1, hr.2.2.2⟩)).tr (S5.mo (fun r hr => hr.2.1)) |>.tr (S6.mo (fun r hr => hr.1))) g1r Cx3 (C5.st S6 (by omega)) Cif ((nt.st S5 (by omega) (by omega)).st S6 (by omega) (by omega)) ivf
    · skip
      refine V_bipush (v := -4) d_fe_object_20 (by decide) ?_
      refine V_ireturn d_fe_object_22 rfl ?_
      refine ⟨_, rfl, fun r' t hR => ?_⟩
      have e10 : nO s = 60 := (by rcases Nat.lt_or_ge (nO s) 60 with z | z; exact absurd (nI_lt z (by omega)) c17; omega)
      obtain ⟨w1, w2⟩ := (hR.t (b01_ne c5)).t e10
      exact ⟨w1.symm, Nx.rf R w2.co⟩
  · skip
    refine V_bipush (v := -2) d_fe_object_8 (by decide) ?_
    refine V_ireturn d_fe_object_10 rfl ?_
    refine ⟨_, rfl, fun r' t hR => ?_⟩
    obtain ⟨w1, w2⟩ := hR.f (b01_e c5)
    exact ⟨w1.symm, Nx.rf R w2.co⟩
