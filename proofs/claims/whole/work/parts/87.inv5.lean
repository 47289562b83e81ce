/-! the invariant kept: edits -/
theorem TkE.out2 {s t : Mem} {o f n : Nat} {F : Nat → Int32} (ivh : IvH s) (hE : nE' s < 1000) (H : TkE s o f n F t) : ∃ t1 t2, PutR s o f n F t1 ∧ NoteE t1 o f (s.2 10 (8 * o + f)) (nW s) t2 ∧ TkH s o f n F (mF t2 16 (nI (nE' s + 1))) ∧ ((s.1 23 ≠ 0 ∧ t = mF t2 16 (nI (nE' s + 1))) ∨ (s.1 23 = 0 ∧ EntE (mF t2 16 (nI (nE' s + 1))) t)) ∧ ∀ k, k < 6 → (mF t2 16 (nI (nE' s + 1))).2 19 (7 * nE' s + 1 + k) = t1.2 11 (6 * (8 * o + f) + k) := by
  obtain ⟨t0, m1, hB, hP, e1, e2, t1, t2, hK, hN, hF⟩ := H
  obtain ⟨b1, b2, b3, b4, b5⟩ := hB
  obtain ⟨P1, P2, P3, P4, P5, P6⟩ := hP
  obtain ⟨k1, k2, k3, k4, k5⟩ := hK
  have a1 : ∀ q, m1.1 q = (cutM s).1 q := fun q => by rw [e1, b1]; rfl
  have a2 : ∀ q, q ≠ 17 → q ≠ 18 → t0.2 q = s.2 q := fun q q1 q2 => by rw [b2 q q2, mA_2n _ _ _ q1, cutC_2]
  have nEm : nE m1 = nE' s := by unfold nE; rw [a1, cutC_16 ivh]; exact cl _ (by omega)
  have nWm : nW m1 = nW s := by unfold nW; rw [a1, cutC_1 s (by omega) (by omega)]
  have sht : sh t0 = sh s := by funext x; unfold sh; rw [a2 9 (by omega) (by omega)]
  rw [nEm] at hN hF k3 k4 k5
  rw [nWm] at hN
  have h18 : m1.2 18 (7 * nE' s) = s.2 10 (8 * o + f) := by rw [e2 18 (by omega), b4, mA_2n _ _ _ (by omega), cutC_2]
  rw [h18] at hN
  rw [a1 23, cutC_1 s (by omega) (by omega)] at hF
  have hPs : PutR s o f n F t1 := by
    refine ⟨fun q hq => ?_, fun q hq q1 q2 => ?_, fun x hx => ?_, fun x hx => ?_, ?_, fun hk i hi => ?_⟩
    · rw [k1, P1 q hq, b1]
      show (cutM s).1 q = s.1 q
      unfold coF at hq
      simp only [Bool.or_eq_true, beq_iff_eq] at hq
      exact cutC_1 s (by omega) (by omega)
    · have hq' := hq
      unfold coA at hq'
      simp only [Bool.or_eq_true, decide_eq_true_eq] at hq'
      rw [k2 q (by omega), P2 q hq q1 q2, a2 q (by omega) (by omega)]
    · rw [k2 10 (by omega), P3 x hx, a2 10 (by omega) (by omega)]
    · rw [k2 11 (by omega), P4 x hx, a2 11 (by omega) (by omega)]
    · rw [k2 10 (by omega), P5, sht, a2 3 (by omega) (by omega)]
    · rw [k2 11 (by omega)]
      exact P6 (by rw [sht, a2 3 (by omega) (by omega)]; exact hk) i hi
  have hN0 := hN
  obtain ⟨n1, n2, _⟩ := hN0
  have g2 : ∀ q, q ≠ 30 → q ≠ 31 → q ≠ 19 → (mF t2 16 (nI (nE' s + 1))).2 q = m1.2 q := fun q q1 q2 q3 => by rw [mF_2, n2 q q1 q2, k2 q q3]
  have g1 : ∀ q, q ≠ 16 → (mF t2 16 (nI (nE' s + 1))).1 q = (cutM s).1 q := fun q q1 => by rw [mF_1n _ _ q1, n1, k1, a1]
  have g19 : (mF t2 16 (nI (nE' s + 1))).2 19 = t1.2 19 := by rw [mF_2, n2 19 (by omega) (by omega)]
  refine ⟨t1, t2, hPs, hN, ⟨mF_1s _ _ _, ?_, ?_, ?_, ?_, ?_, ?_, fun e he => ⟨?_, fun k hk => ⟨?_, ?_⟩⟩, ?_, fun k hk => ?_, ?_, fun hk k hkn hk6 => ?_⟩, hF, fun k hk6 => ?_⟩
  · rw [g1 20 (by omega), cutC_20 ivh]
  · rw [g1 21 (by omega), cutC_1 s (by omega) (by omega)]
  · rw [g1 23 (by omega), cutC_1 s (by omega) (by omega)]
  · rw [g1 24 (by omega), cutC_1 s (by omega) (by omega)]
  · rw [g2 22 (by omega) (by omega) (by omega), e2 22 (by omega), a2 22 (by omega) (by omega)]
  · rw [g2 17 (by omega) (by omega) (by omega), e2 17 (by omega), b2 17 (by omega), mA_2s, pk_us]
  · rw [g2 17 (by omega) (by omega) (by omega), e2 17 (by omega), b2 17 (by omega), mA_2s, pk_un he, cutC_2]
  · rw [g2 18 (by omega) (by omega) (by omega), e2 18 (by omega), b3 _ (by omega), mA_2n _ _ _ (by omega), cutC_2]
  · rw [g19, k3 _ (by omega), e2 19 (by omega), a2 19 (by omega) (by omega)]
  · rw [g2 18 (by omega) (by omega) (by omega), h18]
  · rw [g2 18 (by omega) (by omega) (by omega), e2 18 (by omega), b5 k hk, mA_2n _ _ _ (by omega), cutC_2]
  · rw [g19, k4, P5, sht, a2 3 (by omega) (by omega)]
  · rw [g19, k5 k hk6]
    exact P6 (by rw [sht, a2 3 (by omega) (by omega)]; exact hk) k hkn
  · rw [g19, k5 k hk6, k2 11 (by omega)]
theorem Inv.sc0 {n : Nat} {s t : Mem} (h : Inv n s) (c : Sc s t) : Inv n t := by
  obtain ⟨h1, h2, h3, h4, h5, S, h6⟩ := h
  refine ⟨h1.of (c.1 0 rfl) (fun q q1 q2 => c.2 q ?_), h2.of (c.1 0 rfl) (c.1 8 rfl) (c.2 9 rfl), h3.of (c.1 0 rfl) (c.1 25 rfl) (c.2 26 rfl) (c.2 27 rfl) (c.2 30 rfl), h4.of (c.1 33 rfl) (c.2 34 rfl) (c.2 35 rfl) (c.2 36 rfl) (c.1 0 rfl), h5.of (Nat.le_refl _) c.hi, S, h6.of c.ob ⟨c.1 8 rfl, c.2 1 rfl, c.2 2 rfl, c.2 3 rfl, c.2 4 rfl, c.2 7 rfl, c.2 9 rfl⟩ (c.2 10 rfl) (c.2 11 rfl) c.hi⟩
  rcases (show q = 1 ∨ q = 2 ∨ q = 3 ∨ q = 4 ∨ q = 5 ∨ q = 6 ∨ q = 7 by omega) with e | e | e | e | e | e | e <;> subst e <;> rfl
/-- a chain that has come to its end -/
def ChE (s : Mem) (S : Nat → VP) : Prop := (∀ e, e < nE s → StpE s e (S e) (S (e + 1))) ∧ S (nE s) = cur s ∧ ∀ k, k ≤ nE s → OKV (wV s (S k))
theorem EntE.inv {s t : Mem} {S : Nat → VP} (ivh : IvH s) (h23 : s.1 23 = 0) (hc : ChE s S) (H : EntE s t) : IvH t ∧ IvX t ∧ nE t ≤ nE s ∧ ∃ S', Ch t S' := by
  obtain ⟨g, n, hcase, e16, e20, e21, eF, eA, eR, e22⟩ := H
  obtain ⟨i1, i2, i3, i4, i5, i6, i7, i8, i9⟩ := ivh
  have hg : g ≤ nE s := by
    rcases hcase with ⟨c1, c2, _⟩ | ⟨_, c2, _⟩
    · rw [c2]; exact (i8 0 (by omega)).2
    · omega
  have n60 : n < 60 := by
    rcases hcase with ⟨_, _, c3, _⟩ | ⟨c1, _, c3, _⟩ <;> omega
  have eE : nE t = nE s - g := by unfold nE; rw [e16]; exact cl _ (by omega)
  have eEn : nEn t = n + 1 := by unfold nEn; rw [e20]; exact cl _ (by omega)
  have eD : nD t = n + 1 := by unfold nD; rw [e21]; exact cl _ (by omega)
  have enn : en t n = nE s - g := by unfold en; rw [e22]; exact cl _ (by omega)
  have ent : ∀ k, k < n → (t.2 22 k = nI (en t k) ∧ en t k ≤ nE s - g) ∧ (k + 1 < n → en t k ≤ en t (k + 1)) := fun k hk => by
    rcases hcase with ⟨c1, c2, c3, c4⟩ | ⟨c1, c2, c3, c4⟩
    · have q : ∀ j, j < 59 → en t j = en s (j + 1) - g := fun j hj => by
        have := (i8 (j + 1) (by omega)).2
        have e : en t j = (t.2 22 j).toNatClampNeg := rfl
        rw [e, c4 j hj]
        exact cl _ (by omega)
      refine ⟨⟨by rw [q k (by omega)]; exact c4 k (by omega), ?_⟩, fun hk2 => ?_⟩
      · rw [q k (by omega)]
        have := (i8 (k + 1) (by omega)).2
        omega
      · rw [q k (by omega), q (k + 1) (by omega)]
        have := i9 (k + 1) (by omega)
        omega
    · have q : ∀ j, j < n → en t j = en s j := fun j hj => by unfold en; rw [c4 j hj]
      have := i8 k (by omega)
      refine ⟨⟨by rw [q k hk, c4 k hk]; exact this.1, by rw [q k hk]; omega⟩, fun hk2 => ?_⟩
      rw [q k hk, q (k + 1) hk2]
      exact i9 k (by omega)
  have hE' : nE' t = nE t := by unfold nE'; rw [if_neg (by omega)]
  have hEq : EqV s t := ⟨eF 8 (by omega) (by omega) (by omega), eA 1 (by omega) (by omega) (by omega) (by omega), eA 2 (by omega) (by omega) (by omega) (by omega), eA 3 (by omega) (by omega) (by omega) (by omega), eA 4 (by omega) (by omega) (by omega) (by omega), eA 7 (by omega) (by omega) (by omega) (by omega), eA 9 (by omega) (by omega) (by omega) (by omega)⟩
  have hO : ObE s t := ObE.of hEq.1 hEq.2.2.1 hEq.2.2.2.1 hEq.2.2.2.2.2.2
  refine ⟨⟨by rw [e16, eE], by rw [e20, eEn], by rw [e21, eD], by omega, by omega, by rw [eF 23 (by omega) (by omega) (by omega)]; exact i6, by omega, fun k hk => ?_, fun k hk => ?_⟩, ⟨fun _ => ?_, fun q => ?_⟩, by omega, fun k => S (k + g), fun e he => ?_, ?_, fun k hk => ?_⟩
  · rw [eEn] at hk
    by_cases z : k = n
    · subst z; rw [enn, e22, eE]; exact ⟨rfl, Nat.le_refl _⟩
    · rw [eE]; exact (ent k (by omega)).1
  · rw [eEn] at hk
    by_cases z : k + 1 = n
    · rw [z, enn]; exact (ent k (by omega)).1.2
    · exact (ent k (by omega)).2 (by omega)
  · unfold enB
    rw [eEn, if_neg (by omega), Nat.add_sub_cancel, enn, eE]
  · rw [eF 23 (by omega) (by omega) (by omega), h23] at q
    exact absurd rfl q
  · rw [eE] at he
    obtain ⟨r1, r2⟩ := eR e he
    have := (hc.1 (e + g) (by omega)).of hO (e' := e) r1 r2
    rw [show e + g + 1 = e + 1 + g by omega] at this
    exact this
  · rw [hE', eE]
    dsimp only
    rw [show nE s - g + g = nE s by omega, hc.2.1]
    unfold cur
    rw [eA 10 (by omega) (by omega) (by omega) (by omega), eA 11 (by omega) (by omega) (by omega) (by omega)]
  · exact (hc.2.2 (k + g) (by omega)).of hEq
/-- another row at (o, f) -/
def PutV (s : Mem) (o f n : Nat) (F : Nat → Int32) (x : VP) : Prop := (∀ z, z ≠ 8 * o + f → x.1 z = s.2 10 z) ∧ (∀ z, z < 6 * (8 * o + f) ∨ 6 * (8 * o + f) + 6 ≤ z → x.2 z = s.2 11 z) ∧ x.1 (8 * o + f) = plV (s.2 3 (8 * sh s o + f)) n F ∧ (s.2 3 (8 * sh s o + f) = 2 → ∀ i, i < n → x.2 (6 * (8 * o + f) + i) = F i)
theorem Inv.take {n m o f : Nat} {s t : Mem} {F : Nat → Int32} (h : Inv n s) (hn : n < 512) (hT : TkE s o f m F t) (ho : o < nO s) (hf : f < nf s (sh s o)) (hk : s.2 3 (8 * sh s o + f) ≠ 3) (hnew : ∀ x, PutV s o f m F x → OKV (wV s x)) : Inv (n + 1) t := by
  obtain ⟨ish, ivo, ivw, ivp, ⟨ivh, ivg, ivx, hE⟩, S, hc1, hc2, hc3⟩ := h
  have hp := nE'_le ivh
  have hB := enB_nE' ivh ivx
  obtain ⟨t1, t2, hP, hN, hH, hF, hx⟩ := hT.out2 ivh (by omega)
  obtain ⟨nq1, nq2⟩ := hN.co
  obtain ⟨P1, P2, P3, P4, P5, P6⟩ := hP
  obtain ⟨H16, H20, H21, H23, H24, H22, H17, Hes, H18, H18b, H19, H19b⟩ := hH
  have ivw1 : IvW t1 := ivw.of (P1 0 rfl) (P1 25 rfl) (P2 26 rfl (by omega) (by omega)) (P2 27 rfl (by omega) (by omega)) (P2 30 rfl (by omega) (by omega))
  have ivw2 : IvW t2 := NoteE.ivw ivw1 hN
  have f3 : ∀ q, q ≠ 16 → (mF t2 16 (nI (nE' s + 1))).1 q = t1.1 q := fun q hq => by rw [mF_1n _ _ hq, nq1]
  have g3 : ∀ q, q ≠ 30 → q ≠ 31 → (mF t2 16 (nI (nE' s + 1))).2 q = t1.2 q := fun q q1 q2 => by rw [mF_2, nq2 q q1 q2]
  have ivw3 : IvW (mF t2 16 (nI (nE' s + 1))) := ivw2.of (mF_1n _ _ (by omega)) (mF_1n _ _ (by omega)) rfl rfl rfl
  have a0 : (mF t2 16 (nI (nE' s + 1))).1 0 = s.1 0 := by rw [f3 0 (by omega), P1 0 rfl]
  have a8 : (mF t2 16 (nI (nE' s + 1))).1 8 = s.1 8 := by rw [f3 8 (by omega), P1 8 rfl]
  have a33 : (mF t2 16 (nI (nE' s + 1))).1 33 = s.1 33 := by rw [f3 33 (by omega), P1 33 rfl]
  have aS : ∀ q, 1 ≤ q → q ≤ 7 → (mF t2 16 (nI (nE' s + 1))).2 q = s.2 q := fun q q1 q2 => by
    rw [g3 q (by omega) (by omega)]
    refine P2 q ?_ (by omega) (by omega)
    rcases (show q = 1 ∨ q = 2 ∨ q = 3 ∨ q = 4 ∨ q = 5 ∨ q = 6 ∨ q = 7 by omega) with e | e | e | e | e | e | e <;> subst e <;> rfl
  have a9 : (mF t2 16 (nI (nE' s + 1))).2 9 = s.2 9 := by rw [g3 9 (by omega) (by omega), P2 9 rfl (by omega) (by omega)]
  have aP : ∀ q, q = 34 ∨ q = 35 ∨ q = 36 → (mF t2 16 (nI (nE' s + 1))).2 q = s.2 q := fun q hq => by
    rw [g3 q (by omega) (by omega)]
    refine P2 q ?_ (by omega) (by omega)
    rcases hq with e | e | e <;> subst e <;> rfl
  have a10 : (mF t2 16 (nI (nE' s + 1))).2 10 = t1.2 10 := g3 10 (by omega) (by omega)
  have a11 : (mF t2 16 (nI (nE' s + 1))).2 11 = t1.2 11 := g3 11 (by omega) (by omega)
  generalize mF t2 16 (nI (nE' s + 1)) = u at *
  have hEq : EqV s u := ⟨a8, aS 1 (by omega) (by omega), aS 2 (by omega) (by omega), aS 3 (by omega) (by omega), aS 4 (by omega) (by omega), aS 7 (by omega) (by omega), a9⟩
  have hO : ObE s u := ObE.of a8 (aS 2 (by omega) (by omega)) (aS 3 (by omega) (by omega)) a9
  have ishu : ISh u := ish.of a0 aS
  have ivou : IvO u := ivo.of a0 a8 a9
  have ivpu : IvP u := ivp.of a33 (aP 34 (by omega)) (aP 35 (by omega)) (aP 36 (by omega)) a0
  have h60 := ivh.2.2.2.2.1
  have hde := ivh.2.2.2.1
  have eE : nE u = nE' s + 1 := by unfold nE; rw [H16]; exact cl _ (by omega)
  have eEn : nEn u = nD s := by unfold nEn; rw [H20]; exact cl _ (by omega)
  have eD : nD u = nD s := by unfold nD; rw [H21]
  have een : en u = en s := by funext k; unfold en; rw [H22]
  have eB : enB u = enB s := by funext k; unfold enB; rw [een]
  have egF : gF u = gF s := by unfold gF; rw [H24]
  have ivhu : IvH u := by
    refine ⟨by rw [H16, eE], by rw [H20, eEn], by rw [H21, eD]; exact ivh.2.2.1, by omega, by omega, by rw [H23]; exact ivh.2.2.2.2.2.1, by omega, fun k hk => ?_, fun k hk => ?_⟩
    · rw [eEn] at hk
      rw [H22, een, eE]
      refine ⟨(ivh.2.2.2.2.2.2.2.1 k (by omega)).1, ?_⟩
      have := enc_le ivh hk hde
      omega
    · rw [eEn] at hk
      rw [een]
      exact ivh.2.2.2.2.2.2.2.2 k (by omega)
  have ivgu : IvG u := by
    unfold IvG
    rw [egF, H24]
    exact ivg
  have hce : ChE u (fun k => if k ≤ nE' s then S k else cur t1) := by
    refine ⟨fun e he => ?_, ?_, fun k hk' => ?_⟩
    · rw [eE] at he
      dsimp only
      by_cases z : e = nE' s
      · subst z
        rw [if_pos (Nat.le_refl _), if_neg (by omega), hc2]
        obtain ⟨o1, o2, o3⟩ := hO o ho
        obtain ⟨f1, f2⟩ := o3 f hf
        refine ⟨o, f, o1, by rw [o2]; exact f1, by rw [o2, f2]; exact hk, H17, P3, P4, H18.symm, ?_, fun k hk' => ⟨(H18b k hk').symm, (hx k hk').symm⟩⟩
        rw [H19]
        exact P5
      · rw [if_pos (by omega), if_pos (by omega)]
        obtain ⟨r1, r2⟩ := Hes e z
        exact (hc1 e (by omega)).of hO r1 r2
    · rw [eE]
      dsimp only
      rw [if_neg (by omega)]
      unfold cur
      rw [a10, a11]
    · dsimp only
      by_cases z : k ≤ nE' s
      · rw [if_pos z]
        exact (hc3 k (by omega)).of hEq
      · rw [if_neg z]
        exact (hnew (cur t1) ⟨P3, P4, P5, P6⟩).of hEq
  rcases hF with ⟨h23, e⟩ | ⟨h23, e⟩
  · subst e
    refine ⟨ishu, ivou, ivw3, ivpu, ⟨ivhu, ivgu, ⟨fun q => ?_, fun _ => ?_⟩, by omega⟩, _, hce.1, ?_, hce.2.2⟩
    · rw [H23] at q; exact absurd q h23
    · rw [egF, eB, eD, eEn, eE]
      exact ⟨(ivx.2 h23).1, fun q => absurd q (by omega), by rw [(ivx.2 h23).1]; omega⟩
    · have : nE' t = nE t := by unfold nE'; rw [if_neg (by omega)]
      rw [this]
      exact hce.2.1
  · obtain ⟨r1, r2, r3, S', r4⟩ := EntE.inv ivhu (by rw [H23]; exact h23) hce e
    obtain ⟨_, _, _, _, _, _, eF, eA, _, _⟩ := e
    refine ⟨ishu.of (eF 0 (by omega) (by omega) (by omega)) (fun q q1 q2 => eA q (by omega) (by omega) (by omega) (by omega)), ivou.of (eF 0 (by omega) (by omega) (by omega)) (eF 8 (by omega) (by omega) (by omega)) (eA 9 (by omega) (by omega) (by omega) (by omega)), ivw3.of (eF 0 (by omega) (by omega) (by omega)) (eF 25 (by omega) (by omega) (by omega)) (eA 26 (by omega) (by omega) (by omega) (by omega)) (eA 27 (by omega) (by omega) (by omega) (by omega)) (eA 30 (by omega) (by omega) (by omega) (by omega)), ivpu.of (eF 33 (by omega) (by omega) (by omega)) (eA 34 (by omega) (by omega) (by omega) (by omega)) (eA 35 (by omega) (by omega) (by omega) (by omega)) (eA 36 (by omega) (by omega) (by omega) (by omega)) (eF 0 (by omega) (by omega) (by omega)), ⟨r1, ?_, r2, by omega⟩, S', r4⟩
    unfold IvG gF at *
    rw [eF 24 (by omega) (by omega) (by omega)]
    exact ivgu
