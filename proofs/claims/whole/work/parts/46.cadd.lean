/-! a field more: number, link, derived -/
section AddM
variable (s : Mem) (i : Nat) (k a b y fl : Int32)
theorem addM_n {q : Nat} (h : q < 2 ∨ 7 < q) : (addM s i k a b y fl).2 q = s.2 q := by
  unfold addM
  simp (disch := omega) only [mA_2n]
theorem addM_x {q x : Nat} (h : 3 ≤ q ∧ q ≤ 7) (hx : x ≠ 8 * i + nf s i) : (addM s i k a b y fl).2 q x = s.2 q x := by
  unfold addM
  rcases (show q = 3 ∨ q = 4 ∨ q = 5 ∨ q = 6 ∨ q = 7 by omega) with rfl | rfl | rfl | rfl | rfl <;> simp (disch := first | decide | assumption) only [mA_2s, mA_2n, pk_un]
theorem addM_f : fdS (addM s i k a b y fl) i (nf s i) = fdV k a b y fl := by
  unfold fdS addM
  simp (disch := first | decide | omega) only [mA_2s, mA_2n, pk_us]
theorem addM_2s : (addM s i k a b y fl).2 2 i = nI (nf s i + 1) := by
  unfold addM
  simp (disch := decide) only [mA_2s, mA_2n, pk_us]
theorem addM_2n {j : Nat} (h : j ≠ i) : (addM s i k a b y fl).2 2 j = s.2 2 j := by
  unfold addM
  simp (disch := first | decide | assumption) only [mA_2s, mA_2n, pk_un]
theorem addM_nf (h : nf s i ≤ 8) : nf (addM s i k a b y fl) i = nf s i + 1 := by
  unfold nf at *
  rw [addM_2s]
  exact cl _ (by unfold nf; omega)
theorem addM_nfn {j : Nat} (h : j ≠ i) : nf (addM s i k a b y fl) j = nf s j := by
  unfold nf
  rw [addM_2n _ _ _ _ _ _ _ h]
end AddM
theorem agst_0 {s : Mem} {i : Nat} (h : agst s i = 0) : ¬ uS s i ∧ s.2 2 i ≠ 8 := by
  unfold agst at h
  by_cases q : (∃ k, k < nS s ∧ s.2 1 k = nI i) ∨ (∃ o, o < nO s ∧ s.2 9 o = nI i)
  · rw [if_pos q] at h
    exact absurd h (by decide)
  · rw [if_neg q] at h
    refine ⟨q, fun z => ?_⟩
    rw [if_pos z] at h
    exact absurd h (by decide)
theorem RB.add {g : Gm} {h : Hp} {s : Mem} (R : RB g h s) (ivs : IvS s) (ivo : IvO s) (hm : Sm s) {i c : Nat} (hi : i < nS s) (h8 : nf s i < 8) (hu0 : ¬ uS s i) (hc : h c = none) (k a b y fl : Int32) {L : List Value} (q1 : L.length = 8) (q2 : Cl g h (200 + i) (22, L)) (q3 : ∀ j, j < nf s i → ∃ a, L[j]? = some (.ref a) ∧ Im g h a (2, fdS s i j)) :
    Nx g h (hu (hu (hu h c (2, fdV k a b y fl)) (g.2 (200 + i)) (22, L.set (nf s i) (.ref c))) (g.2 (100 + i)) (8, [.int (s.2 1 i), .ref (g.2 (200 + i)), .int (nI (nf s i + 1)), .int (b01 (uS s i))])) (addM s i k a b y fl) := by
  obtain ⟨RX, ⟨L0, l1, l2, l3⟩, RO, RP, RW, RZ⟩ := R
  have n10 := ivs.2.1
  have S1 : Stq g h (fun r => r ≠ 100 + i ∧ r ≠ 200 + i) (ui g c) (hu h c (2, fdV k a b y fl)) := Stq.freshI hc _ _
  have S1' : Stq g h (fun _ => True) (ui g c) (hu h c (2, fdV k a b y fl)) := Stq.freshI hc _ _
  have C2 := q2.st S1' trivial
  have C1 := (l3 i hi).2.1.st S1' trivial
  have S2 : Stq (ui g c) (hu h c (2, fdV k a b y fl)) (fun r => r ≠ 200 + i) (ui g c) (hu (hu h c (2, fdV k a b y fl)) (g.2 (200 + i)) (22, L.set (nf s i) (.ref c))) := Stq.put C2.2 _
  have C1b := C1.st S2 (by omega)
  have S3 : Stq (ui g c) (hu (hu h c (2, fdV k a b y fl)) (g.2 (200 + i)) (22, L.set (nf s i) (.ref c))) (fun r => r ≠ 100 + i) (ui g c) (hu (hu (hu h c (2, fdV k a b y fl)) (g.2 (200 + i)) (22, L.set (nf s i) (.ref c))) (g.2 (100 + i)) (8, [.int (s.2 1 i), .ref (g.2 (200 + i)), .int (nI (nf s i + 1)), .int (b01 (uS s i))])) := Stq.put C1b.2 _
  have Sa := (S1.tr (S2.mo (fun r hr => hr.2))).tr (S3.mo (fun r hr => hr.1))
  have C2' : Cl (ui g c) (hu (hu h c (2, fdV k a b y fl)) (g.2 (200 + i)) (22, L.set (nf s i) (.ref c))) (200 + i) (22, L.set (nf s i) (.ref c)) := Cl.put C2.2 _
  have C2f := C2'.st S3 (by omega)
  have C1f : Cl (ui g c) (hu (hu (hu h c (2, fdV k a b y fl)) (g.2 (200 + i)) (22, L.set (nf s i) (.ref c))) (g.2 (100 + i)) (8, [.int (s.2 1 i), .ref (g.2 (200 + i)), .int (nI (nf s i + 1)), .int (b01 (uS s i))])) (100 + i) (8, [.int (s.2 1 i), .ref (g.2 (200 + i)), .int (nI (nf s i + 1)), .int (b01 (uS s i))]) := Cl.put C1b.2 _
  have Ic : Im (ui g c) (hu (hu (hu h c (2, fdV k a b y fl)) (g.2 (200 + i)) (22, L.set (nf s i) (.ref c))) (g.2 (100 + i)) (8, [.int (s.2 1 i), .ref (g.2 (200 + i)), .int (nI (nf s i + 1)), .int (b01 (uS s i))])) c (2, fdV k a b y fl) := ((Im.fresh g h c _).st S2 (by omega)).st S3 (by omega)
  have en : nS (addM s i k a b y fl) = nS s := rfl
  have eo : nO (addM s i k a b y fl) = nO s := rfl
  have a1 : (addM s i k a b y fl).2 1 = s.2 1 := addM_n _ _ _ _ _ _ _ (by omega)
  have a9 : (addM s i k a b y fl).2 9 = s.2 9 := addM_n _ _ _ _ _ _ _ (by omega)
  have es : sh (addM s i k a b y fl) = sh s := by funext x; unfold sh; rw [a9]
  have eu : uS (addM s i k a b y fl) = uS s := by funext x; unfold uS; rw [en, eo, a1, a9]
  have hsne : ∀ o, o < nO s → sh s o ≠ i := fun o ho z => hu0 (Or.inr ⟨o, ho, by rw [(ivo.2.2 o ho).1, z]⟩)
  have hfd : ∀ x j, x < nS s → j < nf s x → fdS (addM s i k a b y fl) x j = fdS s x j := by
    intro x j hx hj
    have := (ivs.2.2.1 x hx).2
    have hne : 8 * x + j ≠ 8 * i + nf s i := by
      intro z
      have : x = i := by omega
      subst this
      omega
    unfold fdS
    rw [addM_x _ _ _ _ _ _ _ (by omega) hne, addM_x _ _ _ _ _ _ _ (by omega) hne, addM_x _ _ _ _ _ _ _ (by omega) hne, addM_x _ _ _ _ _ _ _ (by omega) hne, addM_x _ _ _ _ _ _ _ (by omega) hne]
  refine ⟨ui g c, ⟨?_, ?_, ?_, ?_, ?_, ?_⟩, Sa.mo (fun r hr => by unfold KH at hr; omega), rfl⟩
  · exact (RX.st Sa (by omega) (fun _ _ _ => rfl)).co rfl rfl rfl rfl
  · refine ⟨L0, l1, l2.st Sa (by omega), fun x hx => ⟨(l3 x hx).1, ?_⟩⟩
    by_cases e : x = i
    · subst e
      refine ⟨?_, L.set (nf s x) (.ref c), by rw [List.length_set]; exact q1, C2f, fun j hj => ?_⟩
      · rw [a1, addM_2s, eu]
        exact C1f
      · rw [addM_nf _ _ _ _ _ _ _ (by omega)] at hj
        by_cases z : j = nf s x
        · subst z
          refine ⟨c, List.getElem?_set_self (by omega), ?_⟩
          rw [addM_f]
          exact Ic
        · obtain ⟨a', w1, w2⟩ := q3 j (by omega)
          refine ⟨a', by rw [List.getElem?_set_ne (by omega)]; exact w1, ?_⟩
          rw [hfd x j hx (by omega)]
          exact w2.st Sa (by omega)
    · have hx' : x < nS s := hx
      have W := (l3 x hx').2.st Sa (by omega) (by omega) (by omega)
      refine ⟨?_, ?_⟩
      · rw [a1, addM_2n _ _ _ _ _ _ _ e, eu]
        exact W.1
      · obtain ⟨L2, w1, w2, w3⟩ := W.2
        refine ⟨L2, w1, w2, fun j hj => ?_⟩
        rw [addM_nfn _ _ _ _ _ _ _ e] at hj
        rw [hfd x j hx hj]
        exact w3 j hj
  · refine (RO.st hm.2.1 Sa (by omega) (by omega) (fun r _ _ => by omega)).co eo (fun o _ => by rw [a9]) (fun o ho => addM_nfn _ _ _ _ _ _ _ (hsne o ho)) (fun o f ho hf => ?_)
    have h3 : (addM s i k a b y fl).2 3 (8 * sh s o + f) = s.2 3 (8 * sh s o + f) := addM_x _ _ _ _ _ _ _ (by omega) (fun z => hsne o ho (by have := (ivs.2.2.1 _ (ivo.2.2 o ho).2).2; omega))
    have a10 : (addM s i k a b y fl).2 10 = s.2 10 := addM_n _ _ _ _ _ _ _ (by omega)
    have a11 : (addM s i k a b y fl).2 11 = s.2 11 := addM_n _ _ _ _ _ _ _ (by omega)
    have e1 : rowN (addM s i k a b y fl) o f = rowN s o f := by unfold rowN; rw [es, h3, a10]
    exact ⟨e1, fun j _ => by unfold rowF; rw [es, h3, a10, a11]⟩
  · refine (RP.st hm.2.2.1 Sa (by omega) (fun r _ _ => by omega)).co rfl (fun p _ => ⟨by rw [addM_n _ _ _ _ _ _ _ (by omega)], fun j _ => ⟨by rw [addM_n _ _ _ _ _ _ _ (by omega)], by rw [addM_n _ _ _ _ _ _ _ (by omega)]⟩⟩)
  · exact (RW.st hm.2.2.2 Sa (by omega) (fun r _ _ => by omega)).co rfl (addM_n _ _ _ _ _ _ _ (by omega)) (addM_n _ _ _ _ _ _ _ (by omega)) (addM_n _ _ _ _ _ _ _ (by omega)) (addM_n _ _ _ _ _ _ _ (by omega)) (addM_n _ _ _ _ _ _ _ (by omega)) (addM_n _ _ _ _ _ _ _ (by omega))
  · exact RZ.st Sa (fun r _ _ => by omega)
/-- the same memory, with a new cell that nobody sees -/
theorem RB.new {g : Gm} {h : Hp} {s t : Mem} (R : RB g h s) (hm : Sm s) {c : Nat} (hc : h c = none) (x : Nat × List Value) (co : CoB s t) : Nx g h (hu h c x) t := by
  have S : Stq g h (fun _ => True) (ui g c) (hu h c x) := Stq.freshI hc _ _
  obtain ⟨RX, RS, RO, RP, RW, RZ⟩ := R
  exact ⟨ui g c, RB.co ⟨RX.st S trivial (fun _ _ _ => rfl), RS.st hm.1 S trivial trivial (fun _ _ _ => trivial), RO.st hm.2.1 S trivial trivial (fun _ _ _ => trivial), RP.st hm.2.2.1 S trivial (fun _ _ _ => trivial), RW.st hm.2.2.2 S trivial (fun _ _ _ => trivial), RZ.st S (fun _ _ _ => trivial)⟩ co, S.mo (fun _ _ => trivial), rfl⟩
/-- what a field more may come to -/
def AdR (s : Mem) (i : Nat) (k a b y fl : Int32) (r : Int32) (t : Mem) : Prop := cs (agst s i = 0) (r = nI (nf s i) ∧ t = addM s i k a b y fl) (r = agst s i ∧ Sc s t)
theorem sp_addF (G : Gk) {g : Gm} {h : Hp} {s : Mem} (R : RB g h s) (ivs : IvS s) (ivo : IvO s) (hm : Sm s) {i c : Nat} (hi : i < nS s) (hc : h c = none) (k a b y fl : Int32) : Ct G fe_addField [.ref (g.2 (100 + i)), .ref c] (hu h c (2, fdV k a b y fl)) (pI fun r h' => ∀ r' t, AdR s i k a b y fl r' t → r = r' ∧ Nx g h h' t) := by
  obtain ⟨L0, l1, l2, l3⟩ := R.2.1
  obtain ⟨L, q1, q2, q3⟩ := (l3 i hi).2.2
  have n8 := (ivs.2.2.1 i hi).2
  have n10 := ivs.2.1
  have e8 : s.2 2 i = 8 ↔ nf s i = 8 := by
    rw [(ivs.2.2.1 i hi).1]
    exact ⟨fun z => eqN (b := 8) z (by omega) (by omega), fun z => by rw [z]; rfl⟩
  refine (sp_fe_addField G (n := nf s i) (by rw [hu_ne _ _ (fne ((l3 i hi).2.at ivs hi) hc)]; exact (l3 i hi).2.at ivs hi) (by rw [hu_ne _ _ (fne q2.1 hc)]; exact q2.1) (hu_self _ _ _) q1 n8).mono (fun v h' hv => ?_)
  obtain ⟨r, e, z⟩ := hv
  refine ⟨r, e, fun r' t hR => ?_⟩
  rcases z with ⟨z1, z2, z3⟩ | ⟨z1, z2, z3, z4⟩ | ⟨z1, z2, z3, z4⟩
  · have hu1 : uS s i := b01_ne z1
    have ha : agst s i = -3 := if_pos hu1
    obtain ⟨w1, w2⟩ := hR.f (by rw [ha]; decide)
    subst z3
    exact ⟨by rw [z2, w1, ha], R.new hm hc _ w2.co⟩
  · have ha : agst s i = -4 := (if_neg (b01_e z1)).trans (if_pos (e8.mpr z2))
    obtain ⟨w1, w2⟩ := hR.f (by rw [ha]; decide)
    subst z4
    exact ⟨by rw [z3, w1, ha], R.new hm hc _ w2.co⟩
  · have ha : agst s i = 0 := (if_neg (b01_e z1)).trans (if_neg (fun z => by have := e8.mp z; omega))
    obtain ⟨w1, w2⟩ := hR.t ha
    subst z4 w2
    exact ⟨by rw [z3, w1], R.add ivs ivo hm hi z2 (b01_e z1) hc k a b y fl q1 q2 q3⟩
def R_num (s : Mem) (v a b q1 q2 : Int32) (r : Int32) (t : Mem) : Prop := cs (iS s v ∧ ¬ b < a ∧ a ≠ MISS) (AdR s v.toNatClampNeg 0 a b (-1) (flg q1 q2 0) r t) (r = -2 ∧ Sc s t)
def R_lnk (s : Mem) (v u l q1 q2 q3 : Int32) (r : Int32) (t : Mem) : Prop := cs (iS s v ∧ iS s u ∧ ¬ (l ≠ 0 ∧ (q1 ≠ 0 ∨ q2 ≠ 0))) (AdR s v.toNatClampNeg (if l = 0 then 1 else 2) u (-1) (-1) (flg q1 q2 q3) r t) (r = -2 ∧ Sc s t)
def R_der (s : Mem) (v c f y : Int32) (r : Int32) (t : Mem) : Prop := cs (iS s v ∧ mayF s v.toNatClampNeg c f y) (AdR s v.toNatClampNeg 3 c f y 0 r t) (r = -2 ∧ Sc s t)
theorem sp_fe_number (G : Gk) {g : Gm} {h : Hp} {s : Mem} (R : RB g h s) (ivs : IvS s) (ivo : IvO s) (hm : Sm s) (v a b q1 q2 : Int32) : Ct G fe_number [.ref (g.2 2), .int v, .int a, .int b, .int q1, .int q2] h (pI fun r h' => ∀ r' t, R_num s v a b q1 q2 r' t → r = r' ∧ Nx g h h' t) := by
  have X := R.1
  obtain ⟨L, l1, l2, l3⟩ := R.2.1
  have n10 := ivs.2.1
  refine Ct.ofL (M := fe_number) (lv := [some (.ref (g.2 2)), some (.int v), some (.int a), some (.int b), some (.int q1), some (.int q2)]) mdf_fe_number rfl (Nat.le_of_ble_eq_true rfl) rfl ?_
  refine V_aload_n d_fe_number_0 rfl rfl ?_
  refine V_iload_n d_fe_number_1 rfl rfl ?_
  refine V_callV (N := fe_isShape) d_fe_number_2 ml_fe_68 mdf_fe_isShape wi_fe_isShape wz_fe_isShape (sp_fe_isShape G X ivs _) (by first | assumption | exact X.1 | exact hu_self _ _ _ | (simp (disch := first | assumption | (apply Ne.symm; assumption)) only [hu_self, hu_ne]; assumption)) ⟨_, rfl, rfl⟩ rfl rfl (by decide) (by decide) (Nat.le_of_ble_eq_true rfl) rfl rfl (kI fun r2 h2 ⟨e2, f2⟩ => ?_)
  subst e2 f2
  refine V_if_eq d_fe_number_5 (fun c5 => ?_) (fun c5 => ?_)
  · skip
    refine V_bipush (v := -2) d_fe_number_19 (by decide) ?_
    refine V_ireturn d_fe_number_21 rfl ?_
    refine ⟨_, rfl, fun r' t hR => ?_⟩
    obtain ⟨w1, w2⟩ := hR.f (fun q => b01_e c5 q.1)
    exact ⟨w1.symm, Nx.rf R w2.co⟩
  · skip
    refine V_iload_n d_fe_number_8 rfl rfl ?_
    refine V_iload_n d_fe_number_9 rfl rfl ?_
    refine V_icmp_gt d_fe_number_10 (fun c10 => ?_) (fun c10 => ?_)
    · skip
      refine V_bipush (v := -2) d_fe_number_19 (by decide) ?_
      refine V_ireturn d_fe_number_21 rfl ?_
      refine ⟨_, rfl, fun r' t hR => ?_⟩
      obtain ⟨w1, w2⟩ := hR.f (fun q => q.2.1 c10)
      exact ⟨w1.symm, Nx.rf R w2.co⟩
    · skip
      refine V_iload_n d_fe_number_13 rfl rfl ?_
      refine V_ldc d_fe_number_14 kc_fe_87 ?_
      refine V_icmp_ne d_fe_number_16 (fun c16 => ?_) (fun c16 => ?_)
      · skip
        have hv := b01_ne c5
        obtain ⟨i, hi, rfl⟩ := hv
        refine V_aload_n d_fe_number_22 rfl rfl ?_
        refine V_getf d_fe_number_23 fl_fe_11 (by first | assumption | exact X.1 | exact hu_self _ _ _ | (simp (disch := first | assumption | (apply Ne.symm; assumption)) only [hu_self, hu_ne]; assumption)) rfl ?_
        refine V_iload_n d_fe_number_26 rfl rfl ?_
        refine V_aald i d_fe_number_27 l2.1 (by decide) (by decide) rfl (by omega) (l3 i hi).1 ?_
        refine V.need (cr := 0 + 1) (sr := 0 + 5) ?_ (by decide) (by decide)
        refine V_new (M := fe_number) d_fe_number_28 nw_fe_88 (fun q28 hq28 => ?_)
        refine V_dup d_fe_number_31 rfl ?_
        refine V_iconst (v := 0) d_fe_number_32 (by decide) ?_
        refine V_iload_n d_fe_number_33 rfl rfl ?_
        refine V_iload_n d_fe_number_34 rfl rfl ?_
        refine V_iconst (v := -1) d_fe_number_35 (by decide) ?_
        refine V_iload d_fe_number_36 rfl ?_
        refine V_iload d_fe_number_38 rfl ?_
        refine V_iconst (v := 0) d_fe_number_40 (by decide) ?_
        refine V_callS (N := fe_flags) d_fe_number_41 ml_fe_90 mdf_fe_flags ws_fe_flags (sp_fe_flags G _ _ _ _) rfl rfl (by decide) (by decide) (Nat.le_of_ble_eq_true rfl) rfl rfl (kI fun r41 h41 ⟨e41, f41⟩ => ?_)
        subst e41 f41
        refine V_callI (N := fd_init) d_fe_number_44 ml_fe_94 mdf_fd_init wi_fd_init rfl rfl (sp_fd_init G (hu_self _ _ _) _ _ _ _ _) rfl rfl (by decide) (by decide) (Nat.le_of_ble_eq_true rfl) rfl rfl (kN fun h44 e44 => ?_)
        subst e44
        rw [hu_hu]
        refine V_callS (N := fe_addField) d_fe_number_47 ml_fe_97 mdf_fe_addField ws_fe_addField (sp_addF G R ivs ivo hm hi hq28 _ _ _ _ _) rfl rfl (by decide) (by decide) (Nat.le_of_ble_eq_true rfl) rfl rfl (kI fun r47 h47 e47 => ?_)
        refine V_ireturn d_fe_number_50 rfl ?_
        refine ⟨_, rfl, fun r' t hR => ?_⟩
        have hA := hR.t ⟨⟨i, hi, rfl⟩, c10, c16⟩
        rw [cl i (by omega)] at hA
        exact e47 r' t hA
      · skip
        refine V_bipush (v := -2) d_fe_number_19 (by decide) ?_
        refine V_ireturn d_fe_number_21 rfl ?_
        refine ⟨_, rfl, fun r' t hR => ?_⟩
        obtain ⟨w1, w2⟩ := hR.f (fun q => q.2.2 c16)
        exact ⟨w1.symm, Nx.rf R w2.co⟩
theorem sp_fe_link (G : Gk) {g : Gm} {h : Hp} {s : Mem} (R : RB g h s) (ivs : IvS s) (ivo : IvO s) (hm : Sm s) (v u l q1 q2 q3 : Int32) : Ct G fe_link [.ref (g.2 2), .int v, .int u, .int l, .int q1, .int q2, .int q3] h (pI fun r h' => ∀ r' t, R_lnk s v u l q1 q2 q3 r' t → r = r' ∧ Nx g h h' t) := by
  have X := R.1
  obtain ⟨L, l1, l2, l3⟩ := R.2.1
  have n10 := ivs.2.1
  refine Ct.ofL (M := fe_link) (lv := [some (.ref (g.2 2)), some (.int v), some (.int u), some (.int l), some (.int q1), some (.int q2), some (.int q3)]) mdf_fe_link rfl (Nat.le_of_ble_eq_true rfl) rfl ?_
  refine V_aload_n d_fe_link_0 rfl rfl ?_
  refine V_iload_n d_fe_link_1 rfl rfl ?_
  refine V_callV (N := fe_isShape) d_fe_link_2 ml_fe_68 mdf_fe_isShape wi_fe_isShape wz_fe_isShape (sp_fe_isShape G X ivs _) (by first | assumption | exact X.1 | exact hu_self _ _ _ | (simp (disch := first | assumption | (apply Ne.symm; assumption)) only [hu_self, hu_ne]; assumption)) ⟨_, rfl, rfl⟩ rfl rfl (by decide) (by decide) (Nat.le_of_ble_eq_true rfl) rfl rfl (kI fun r2 h2 ⟨e2, f2⟩ => ?_)
  subst e2 f2
  refine V_if_eq d_fe_link_5 (fun c5 => ?_) (fun c5 => ?_)
  · skip
    refine V_bipush (v := -2) d_fe_link_30 (by decide) ?_
    refine V_ireturn d_fe_link_32 rfl ?_
    refine ⟨_, rfl, fun r' t hR => ?_⟩
    obtain ⟨w1, w2⟩ := hR.f (fun q => b01_e c5 q.1)
    exact ⟨w1.symm, Nx.rf R w2.co⟩
  · skip
    refine V_aload_n d_fe_link_8 rfl rfl ?_
    refine V_iload_n d_fe_link_9 rfl rfl ?_
    refine V_callV (N := fe_isShape) d_fe_link_10 ml_fe_68 mdf_fe_isShape wi_fe_isShape wz_fe_isShape (sp_fe_isShape G X ivs _) (by first | assumption | exact X.1 | exact hu_self _ _ _ | (simp (disch := first | assumption | (apply Ne.symm; assumption)) only [hu_self, hu_ne]; assumption)) ⟨_, rfl, rfl⟩ rfl rfl (by decide) (by decide) (Nat.le_of_ble_eq_true rfl) rfl rfl (kI fun r10 h10 ⟨e10, f10⟩ => ?_)
    subst e10 f10
    refine V_if_eq d_fe_link_13 (fun c13 => ?_) (fun c13 => ?_)
    · skip
      refine V_bipush (v := -2) d_fe_link_30 (by decide) ?_
      refine V_ireturn d_fe_link_32 rfl ?_
      refine ⟨_, rfl, fun r' t hR => ?_⟩
      obtain ⟨w1, w2⟩ := hR.f (fun q => b01_e c13 q.2.1)
      exact ⟨w1.symm, Nx.rf R w2.co⟩
    · skip
      refine V_iload_n d_fe_link_16 rfl rfl ?_
      refine V_if_eq d_fe_link_17 (fun c17 => ?_) (fun c17 => ?_)
      · skip
        have hv := b01_ne c5
        have hv2 := b01_ne c13
        obtain ⟨i, hi, rfl⟩ := hv
        refine V_aload_n d_fe_link_33 rfl rfl ?_
        refine V_getf d_fe_link_34 fl_fe_11 (by first | assumption | exact X.1 | exact hu_self _ _ _ | (simp (disch := first | assumption | (apply Ne.symm; assumption)) only [hu_self, hu_ne]; assumption)) rfl ?_
        refine V_iload_n d_fe_link_37 rfl rfl ?_
        refine V_aald i d_fe_link_38 l2.1 (by decide) (by decide) rfl (by omega) (l3 i hi).1 ?_
        refine V.need (cr := 0 + 1) (sr := 0 + 5) ?_ (by decide) (by decide)
        refine V_new (M := fe_link) d_fe_link_39 nw_fe_88 (fun q39 hq39 => ?_)
        refine V_dup d_fe_link_42 rfl ?_
        refine V_iload_n d_fe_link_43 rfl rfl ?_
        refine V_if_eq d_fe_link_44 (fun c44 => ?_) (fun c44 => ?_)
        · skip
          refine V_iconst (v := 1) d_fe_link_51 (by decide) ?_
          refine V_iload_n d_fe_link_52 rfl rfl ?_
          refine V_iconst (v := -1) d_fe_link_53 (by decide) ?_
          refine V_iconst (v := -1) d_fe_link_54 (by decide) ?_
          refine V_iload d_fe_link_55 rfl ?_
          refine V_iload d_fe_link_57 rfl ?_
          refine V_iload d_fe_link_59 rfl ?_
          refine V_callS (N := fe_flags) d_fe_link_61 ml_fe_90 mdf_fe_flags ws_fe_flags (sp_fe_flags G _ _ _ _) rfl rfl (by decide) (by decide) (Nat.le_of_ble_eq_true rfl) rfl rfl (kI fun r61 h61 ⟨e61, f61⟩ => ?_)
          subst e61 f61
          refine V_callI (N := fd_init) d_fe_link_64 ml_fe_94 mdf_fd_init wi_fd_init rfl rfl (sp_fd_init G (hu_self _ _ _) _ _ _ _ _) rfl rfl (by decide) (by decide) (Nat.le_of_ble_eq_true rfl) rfl rfl (kN fun h64 e64 => ?_)
          subst e64
          rw [hu_hu]
          refine V_callS (N := fe_addField) d_fe_link_67 ml_fe_97 mdf_fe_addField ws_fe_addField (sp_addF G R ivs ivo hm hi hq39 _ _ _ _ _) rfl rfl (by decide) (by decide) (Nat.le_of_ble_eq_true rfl) rfl rfl (kI fun r67 h67 e67 => ?_)
          refine V_ireturn d_fe_link_70 rfl ?_
          refine ⟨_, rfl, fun r' t hR => ?_⟩
          have hA := hR.t ⟨⟨i, hi, rfl⟩, hv2, fun q => by first | exact q.1 c17 | exact q.2.elim (fun z => z c22) (fun z => z c27)⟩
          rw [cl i (by omega)] at hA
          first | exact absurd c17 c44 | exact absurd c44 c17 | (rw [if_pos c17] at hA; exact e67 r' t hA) | (rw [if_neg c17] at hA; exact e67 r' t hA)
        · skip
          refine V_iconst (v := 2) d_fe_link_47 (by decide) ?_
          refine V_goto d_fe_link_48 ?_
          refine V_iload_n d_fe_link_52 rfl rfl ?_
          refine V_iconst (v := -1) d_fe_link_53 (by decide) ?_
          refine V_iconst (v := -1) d_fe_link_54 (by decide) ?_
          refine V_iload d_fe_link_55 rfl ?_
          refine V_iload d_fe_link_57 rfl ?_
          refine V_iload d_fe_link_59 rfl ?_
          refine V_callS (N := fe_flags) d_fe_link_61 ml_fe_90 mdf_fe_flags ws_fe_flags (sp_fe_flags G _ _ _ _) rfl rfl (by decide) (by decide) (Nat.le_of_ble_eq_true rfl) rfl rfl (kI fun r61 h61 ⟨e61, f61⟩ => ?_)
          subst e61 f61
          refine V_callI (N := fd_init) d_fe_link_64 ml_fe_94 mdf_fd_init wi_fd_init rfl rfl (sp_fd_init G (hu_self _ _ _) _ _ _ _ _) rfl rfl (by decide) (by decide) (Nat.le_of_ble_eq_true rfl) rfl rfl (kN fun h64 e64 => ?_)
          subst e64
          rw [hu_hu]
          refine V_callS (N := fe_addField) d_fe_link_67 ml_fe_97 mdf_fe_addField ws_fe_addField (sp_addF G R ivs ivo hm hi hq39 _ _ _ _ _) rfl rfl (by decide) (by decide) (Nat.le_of_ble_eq_true rfl) rfl rfl (kI fun r67 h67 e67 => ?_)
          refine V_ireturn d_fe_link_70 rfl ?_
          refine ⟨_, rfl, fun r' t hR => ?_⟩
          have hA := hR.t ⟨⟨i, hi, rfl⟩, hv2, fun q => by first | exact q.1 c17 | exact q.2.elim (fun z => z c22) (fun z => z c27)⟩
          rw [cl i (by omega)] at hA
          first | exact absurd c17 c44 | exact absurd c44 c17 | (rw [if_pos c17] at hA; exact e67 r' t hA) | (rw [if_neg c17] at hA; exact e67 r' t hA)
      · skip
        refine V_iload d_fe_link_20 rfl ?_
        refine V_if_ne d_fe_link_22 (fun c22 => ?_) (fun c22 => ?_)
        · skip
          refine V_bipush (v := -2) d_fe_link_30 (by decide) ?_
          refine V_ireturn d_fe_link_32 rfl ?_
          refine ⟨_, rfl, fun r' t hR => ?_⟩
          obtain ⟨w1, w2⟩ := hR.f (fun q => q.2.2 ⟨c17, Or.inl c22⟩)
          exact ⟨w1.symm, Nx.rf R w2.co⟩
        · skip
          refine V_iload d_fe_link_25 rfl ?_
          refine V_if_eq d_fe_link_27 (fun c27 => ?_) (fun c27 => ?_)
          · skip
            have hv := b01_ne c5
            have hv2 := b01_ne c13
            obtain ⟨i, hi, rfl⟩ := hv
            refine V_aload_n d_fe_link_33 rfl rfl ?_
            refine V_getf d_fe_link_34 fl_fe_11 (by first | assumption | exact X.1 | exact hu_self _ _ _ | (simp (disch := first | assumption | (apply Ne.symm; assumption)) only [hu_self, hu_ne]; assumption)) rfl ?_
            refine V_iload_n d_fe_link_37 rfl rfl ?_
            refine V_aald i d_fe_link_38 l2.1 (by decide) (by decide) rfl (by omega) (l3 i hi).1 ?_
            refine V.need (cr := 0 + 1) (sr := 0 + 5) ?_ (by decide) (by decide)
            refine V_new (M := fe_link) d_fe_link_39 nw_fe_88 (fun q39 hq39 => ?_)
            refine V_dup d_fe_link_42 rfl ?_
            refine V_iload_n d_fe_link_43 rfl rfl ?_
            refine V_if_eq d_fe_link_44 (fun c44 => ?_) (fun c44 => ?_)
            · skip
              refine V_iconst (v := 1) d_fe_link_51 (by decide) ?_
              refine V_iload_n d_fe_link_52 rfl rfl ?_
              refine V_iconst (v := -1) d_fe_link_53 (by decide) ?_
              refine V_iconst (v := -1) d_fe_link_54 (by decide) ?_
              refine V_iload d_fe_link_55 rfl ?_
              refine V_iload d_fe_link_57 rfl ?_
              refine V_iload d_fe_link_59 rfl ?_
              refine V_callS (N := fe_flags) d_fe_link_61 ml_fe_90 mdf_fe_flags ws_fe_flags (sp_fe_flags G _ _ _ _) rfl rfl (by decide) (by decide) (Nat.le_of_ble_eq_true rfl) rfl rfl (kI fun r61 h61 ⟨e61, f61⟩ => ?_)
              subst e61 f61
              refine V_callI (N := fd_init) d_fe_link_64 ml_fe_94 mdf_fd_init wi_fd_init rfl rfl (sp_fd_init G (hu_self _ _ _) _ _ _ _ _) rfl rfl (by decide) (by decide) (Nat.le_of_ble_eq_true rfl) rfl rfl (kN fun h64 e64 => ?_)
              subst e64
              rw [hu_hu]
              refine V_callS (N := fe_addField) d_fe_link_67 ml_fe_97 mdf_fe_addField ws_fe_addField (sp_addF G R ivs ivo hm hi hq39 _ _ _ _ _) rfl rfl (by decide) (by decide) (Nat.le_of_ble_eq_true rfl) rfl rfl (kI fun r67 h67 e67 => ?_)
              refine V_ireturn d_fe_link_70 rfl ?_
              refine ⟨_, rfl, fun r' t hR => ?_⟩
              have hA := hR.t ⟨⟨i, hi, rfl⟩, hv2, fun q => by first | exact q.1 c17 | exact q.2.elim (fun z => z c22) (fun z => z c27)⟩
              rw [cl i (by omega)] at hA
              first | exact absurd c17 c44 | exact absurd c44 c17 | (rw [if_pos c17] at hA; exact e67 r' t hA) | (rw [if_neg c17] at hA; exact e67 r' t hA)
            · skip
              refine V_iconst (v := 2) d_fe_link_47 (by decide) ?_
              refine V_goto d_fe_link_48 ?_
              refine V_iload_n d_fe_link_52 rfl rfl ?_
              refine V_iconst (v := -1) d_fe_link_53 (by decide) ?_
              refine V_iconst (v := -1) d_fe_link_54 (by decide) ?_
              refine V_iload d_fe_link_55 rfl ?_
              refine V_iload d_fe_link_57 rfl ?_
              refine V_iload d_fe_link_59 rfl ?_
              refine V_callS (N := fe_flags) d_fe_link_61 ml_fe_90 mdf_fe_flags ws_fe_flags (sp_fe_flags G _ _ _ _) rfl rfl (by decide) (by decide) (Nat.le_of_ble_eq_true rfl) rfl rfl (kI fun r61 h61 ⟨e61, f61⟩ => ?_)
              subst e61 f61
              refine V_callI (N := fd_init) d_fe_link_64 ml_fe_94 mdf_fd_init wi_fd_init rfl rfl (sp_fd_init G (hu_self _ _ _) _ _ _ _ _) rfl rfl (by decide) (by decide) (Nat.le_of_ble_eq_true rfl) rfl rfl (kN fun h64 e64 => ?_)
              subst e64
              rw [hu_hu]
              refine V_callS (N := fe_addField) d_fe_link_67 ml_fe_97 mdf_fe_addField ws_fe_addField (sp_addF G R ivs ivo hm hi hq39 _ _ _ _ _) rfl rfl (by decide) (by decide) (Nat.le_of_ble_eq_true rfl) rfl rfl (kI fun r67 h67 e67 => ?_)
              refine V_ireturn d_fe_link_70 rfl ?_
              refine ⟨_, rfl, fun r' t hR => ?_⟩
              have hA := hR.t ⟨⟨i, hi, rfl⟩, hv2, fun q => by first | exact q.1 c17 | exact q.2.elim (fun z => z c22) (fun z => z c27)⟩
              rw [cl i (by omega)] at hA
              first | exact absurd c17 c44 | exact absurd c44 c17 | (rw [if_pos c17] at hA; exact e67 r' t hA) | (rw [if_neg c17] at hA; exact e67 r' t hA)
          · skip
            refine V_bipush (v := -2) d_fe_link_30 (by decide) ?_
            refine V_ireturn d_fe_link_32 rfl ?_
            refine ⟨_, rfl, fun r' t hR => ?_⟩
            obtain ⟨w1, w2⟩ := hR.f (fun q => q.2.2 ⟨c17, Or.inr c27⟩)
            exact ⟨w1.symm, Nx.rf R w2.co⟩
theorem sp_fe_derived (G : Gk) {g : Gm} {h : Hp} {s : Mem} (R : RB g h s) (ivs : IvS s) (ivo : IvO s) (ivf : IvF s) (hm : Sm s) (v c f y : Int32) : Ct G fe_derived [.ref (g.2 2), .int v, .int c, .int f, .int y] h (pI fun r h' => ∀ r' t, R_der s v c f y r' t → r = r' ∧ Nx g h h' t) := by
  have X := R.1
  have S := R.2.1
  obtain ⟨L, l1, l2, l3⟩ := R.2.1
  have n10 := ivs.2.1
  refine Ct.ofL (M := fe_derived) (lv := [some (.ref (g.2 2)), some (.int v), some (.int c), some (.int f), some (.int y)]) mdf_fe_derived rfl (Nat.le_of_ble_eq_true rfl) rfl ?_
  refine V_aload_n d_fe_derived_0 rfl rfl ?_
  refine V_iload_n d_fe_derived_1 rfl rfl ?_
  refine V_callV (N := fe_isShape) d_fe_derived_2 ml_fe_68 mdf_fe_isShape wi_fe_isShape wz_fe_isShape (sp_fe_isShape G X ivs _) (by first | assumption | exact X.1 | exact hu_self _ _ _ | (simp (disch := first | assumption | (apply Ne.symm; assumption)) only [hu_self, hu_ne]; assumption)) ⟨_, rfl, rfl⟩ rfl rfl (by decide) (by decide) (Nat.le_of_ble_eq_true rfl) rfl rfl (kI fun r2 h2 ⟨e2, f2⟩ => ?_)
  subst e2 f2
  refine V_if_eq d_fe_derived_5 (fun c5 => ?_) (fun c5 => ?_)
  · skip
    refine V_bipush (v := -2) d_fe_derived_25 (by decide) ?_
    refine V_ireturn d_fe_derived_27 rfl ?_
    refine ⟨_, rfl, fun r' t hR => ?_⟩
    obtain ⟨w1, w2⟩ := hR.f (fun q => b01_e c5 q.1)
    exact ⟨w1.symm, Nx.rf R w2.co⟩
  · skip
    have hv := b01_ne c5
    obtain ⟨i, hi, rfl⟩ := hv
    refine V_aload_n d_fe_derived_8 rfl rfl ?_
    refine V_aload_n d_fe_derived_9 rfl rfl ?_
    refine V_getf d_fe_derived_10 fl_fe_11 (by first | assumption | exact X.1 | exact hu_self _ _ _ | (simp (disch := first | assumption | (apply Ne.symm; assumption)) only [hu_self, hu_ne]; assumption)) rfl ?_
    refine V_iload_n d_fe_derived_13 rfl rfl ?_
    refine V_aald i d_fe_derived_14 l2.1 (by decide) (by decide) rfl (by omega) (l3 i hi).1 ?_
    refine V_iload_n d_fe_derived_15 rfl rfl ?_
    refine V_iload_n d_fe_derived_16 rfl rfl ?_
    refine V_iload d_fe_derived_17 rfl ?_
    refine V_callV (N := fe_canFollow) d_fe_derived_19 ml_fe_101 mdf_fe_canFollow wi_fe_canFollow wz_fe_canFollow (sp_fe_canFollow G X S ivs ivf hi c f y) (by first | assumption | exact X.1 | exact hu_self _ _ _ | (simp (disch := first | assumption | (apply Ne.symm; assumption)) only [hu_self, hu_ne]; assumption)) ⟨_, rfl, rfl⟩ rfl rfl (by decide) (by decide) (Nat.le_of_ble_eq_true rfl) rfl rfl (kI fun r19 h19 ⟨e19, f19⟩ => ?_)
    subst e19 f19
    refine V_if_ne d_fe_derived_22 (fun c22 => ?_) (fun c22 => ?_)
    · skip
      refine V_aload_n d_fe_derived_28 rfl rfl ?_
      refine V_getf d_fe_derived_29 fl_fe_11 (by first | assumption | exact X.1 | exact hu_self _ _ _ | (simp (disch := first | assumption | (apply Ne.symm; assumption)) only [hu_self, hu_ne]; assumption)) rfl ?_
      refine V_iload_n d_fe_derived_32 rfl rfl ?_
      refine V_aald i d_fe_derived_33 l2.1 (by decide) (by decide) rfl (by omega) (l3 i hi).1 ?_
      refine V.need (cr := 0 + 1) (sr := 0 + 5) ?_ (by decide) (by decide)
      refine V_new (M := fe_derived) d_fe_derived_34 nw_fe_88 (fun q34 hq34 => ?_)
      refine V_dup d_fe_derived_37 rfl ?_
      refine V_iconst (v := 3) d_fe_derived_38 (by decide) ?_
      refine V_iload_n d_fe_derived_39 rfl rfl ?_
      refine V_iload_n d_fe_derived_40 rfl rfl ?_
      refine V_iload d_fe_derived_41 rfl ?_
      refine V_iconst (v := 0) d_fe_derived_43 (by decide) ?_
      refine V_callI (N := fd_init) d_fe_derived_44 ml_fe_94 mdf_fd_init wi_fd_init rfl rfl (sp_fd_init G (hu_self _ _ _) _ _ _ _ _) rfl rfl (by decide) (by decide) (Nat.le_of_ble_eq_true rfl) rfl rfl (kN fun h44 e44 => ?_)
      subst e44
      rw [hu_hu]
      refine V_callS (N := fe_addField) d_fe_derived_47 ml_fe_97 mdf_fe_addField ws_fe_addField (sp_addF G R ivs ivo hm hi hq34 _ _ _ _ _) rfl rfl (by decide) (by decide) (Nat.le_of_ble_eq_true rfl) rfl rfl (kI fun r47 h47 e47 => ?_)
      refine V_ireturn d_fe_derived_50 rfl ?_
      refine ⟨_, rfl, fun r' t hR => ?_⟩
      have hA := hR.t ⟨⟨i, hi, rfl⟩, by rw [cl i (by omega)]; exact b01_ne c22⟩
      rw [cl i (by omega)] at hA
      exact e47 r' t hA
    · skip
      refine V_bipush (v := -2) d_fe_derived_25 (by decide) ?_
      refine V_ireturn d_fe_derived_27 rfl ?_
      refine ⟨_, rfl, fun r' t hR => ?_⟩
      obtain ⟨w1, w2⟩ := hR.f (fun q => b01_e c22 (by have := q.2; rw [cl i (by omega)] at this; exact this))
      exact ⟨w1.symm, Nx.rf R w2.co⟩
