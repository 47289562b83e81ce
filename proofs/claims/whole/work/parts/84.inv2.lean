/-! the invariant kept: paths, watches, begin, shapes, fields -/
theorem Inv.keepP {n : Nat} {s t : Mem} (h : Inv n s) (a : ∀ q, q ≠ 33 → t.1 q = s.1 q) (b : ∀ q, q < 34 ∨ 36 < q → t.2 q = s.2 q) (hp : IvP t) : Inv (n + 1) t := by
  obtain ⟨h1, h2, h3, h4, h5, S, h6⟩ := h
  have hH : HiE s t := ⟨fun q hq => a q (by omega), fun q hq => b q (by omega)⟩
  refine ⟨h1.of (a 0 (by omega)) (fun q q1 q2 => b q (by omega)), h2.of (a 0 (by omega)) (a 8 (by omega)) (b 9 (by omega)), h3.of (a 0 (by omega)) (a 25 (by omega)) (b 26 (by omega)) (b 27 (by omega)) (b 30 (by omega)), hp, h5.of (Nat.le_succ _) hH, S, h6.of (ObE.of (a 8 (by omega)) (b 2 (by omega)) (b 3 (by omega)) (b 9 (by omega))) ⟨a 8 (by omega), b 1 (by omega), b 2 (by omega), b 3 (by omega), b 4 (by omega), b 7 (by omega), b 9 (by omega)⟩ (b 10 (by omega)) (b 11 (by omega)) hH⟩
theorem Inv.keepW {n : Nat} {s t : Mem} (h : Inv n s) (a : ∀ q, q ≠ 25 → t.1 q = s.1 q) (b : ∀ q, q < 26 ∨ 31 < q → t.2 q = s.2 q) (hw : IvW t) : Inv (n + 1) t := by
  obtain ⟨h1, h2, h3, h4, h5, S, h6⟩ := h
  have hH : HiE s t := ⟨fun q hq => a q (by omega), fun q hq => b q (by omega)⟩
  refine ⟨h1.of (a 0 (by omega)) (fun q q1 q2 => b q (by omega)), h2.of (a 0 (by omega)) (a 8 (by omega)) (b 9 (by omega)), hw, h4.of (a 33 (by omega)) (b 34 (by omega)) (b 35 (by omega)) (b 36 (by omega)) (a 0 (by omega)), h5.of (Nat.le_succ _) hH, S, h6.of (ObE.of (a 8 (by omega)) (b 2 (by omega)) (b 3 (by omega)) (b 9 (by omega))) ⟨a 8 (by omega), b 1 (by omega), b 2 (by omega), b 3 (by omega), b 4 (by omega), b 7 (by omega), b 9 (by omega)⟩ (b 10 (by omega)) (b 11 (by omega)) hH⟩
theorem StOK.of {s t : Mem} (h : t.1 0 = s.1 0) {k n : Int32} (q : StOK s k n) : StOK t k n := by
  unfold StOK isSh at *
  rw [h]
  exact q
theorem Inv.path {n : Nat} {s t : Mem} {r : Int32} (h : Inv n s) (hR : R_pth s r t) : Inv (n + 1) t := by
  rcases hR with ⟨_, _, c⟩ | ⟨hn, _, e⟩
  · exact h.sc c
  have hp := h.2.2.2.1
  have n16 := hp.2.1
  subst e
  have f33 : (mF (mA s 34 (nP s) 0) 33 (nI (nP s + 1))).1 33 = nI (nP s + 1) := mF_1s _ _ _
  have e34 : (mF (mA s 34 (nP s) 0) 33 (nI (nP s + 1))).2 34 = upd (s.2 34) (nP s) 0 := by rw [mF_2, mA_2s]
  have e2 : ∀ q, q ≠ 34 → (mF (mA s 34 (nP s) 0) 33 (nI (nP s + 1))).2 q = s.2 q := fun q hq => by rw [mF_2, mA_2n _ _ _ hq]
  refine h.keepP (fun q hq => mF_1n _ _ hq) (fun q hq => e2 q (by omega)) ?_
  have enP : nP (mF (mA s 34 (nP s) 0) 33 (nI (nP s + 1))) = nP s + 1 := (congrArg Int32.toNatClampNeg f33).trans (cl _ (by omega))
  refine ⟨by rw [f33, enP], by rw [enP]; omega, fun p hp' => ?_⟩
  rw [enP] at hp'
  unfold sp
  rw [e34, e2 35 (by omega), e2 36 (by omega)]
  by_cases z : p = nP s
  · subst z
    rw [pk_us]
    exact ⟨rfl, Nat.zero_le _, fun i hi => absurd hi (Nat.not_lt_zero _)⟩
  · rw [pk_un z]
    obtain ⟨q1, q2, q3⟩ := hp.2.2 p (by omega)
    exact ⟨q1, q2, fun i hi => (q3 i hi).of (mF_1n _ _ (by omega))⟩
theorem Inv.step {n : Nat} {s t : Mem} {v k m r : Int32} (h : Inv n s) (hR : R_stp s v k m r t) : Inv (n + 1) t := by
  rcases hR with ⟨⟨⟨p, hp, rfl⟩, hok⟩, ⟨_, _, c⟩ | ⟨h5, _, e⟩⟩ | ⟨_, _, c⟩
  · exact h.sc c
  · have hP := h.2.2.2.1
    have n16 := hP.2.1
    rw [cl p (by omega)] at h5 e
    obtain ⟨q1, q2, q3⟩ := hP.2.2 p hp
    have e34 : t.2 34 = upd (s.2 34) p (nI (sp s p + 1)) := by rw [e, mA_2s, mA_2n _ _ _ (by omega), mA_2n _ _ _ (by omega)]
    have e35 : t.2 35 = upd (s.2 35) (5 * p + sp s p) k := by rw [e, mA_2n _ _ _ (by omega), mA_2n _ _ _ (by omega), mA_2s]
    have e36 : t.2 36 = upd (s.2 36) (5 * p + sp s p) m := by rw [e, mA_2n _ _ _ (by omega), mA_2s, mA_2n _ _ _ (by omega)]
    have f : t.1 = s.1 := by rw [e]; rfl
    refine h.keepP (fun q _ => by rw [f]) (fun q hq => by rw [e, mA_2n _ _ _ (by omega), mA_2n _ _ _ (by omega), mA_2n _ _ _ (by omega)]) ?_
    have enP : nP t = nP s := by unfold nP; rw [f]
    have es : ∀ x, sp t x = if x = p then sp s p + 1 else sp s x := fun x => by
      unfold sp
      rw [e34]
      by_cases z : x = p
      · subst z
        rw [if_pos rfl, pk_us]
        exact cl _ (by omega)
      · rw [if_neg z, pk_un z]
    refine ⟨by rw [f, enP]; exact hP.1, by rw [enP]; exact n16, fun x hx => ?_⟩
    rw [enP] at hx
    rw [es, e34, e35, e36]
    by_cases z : x = p
    · subst z
      rw [if_pos rfl, pk_us]
      refine ⟨rfl, by omega, fun i hi => ?_⟩
      by_cases w : i = sp s x
      · subst w
        rw [pk_us, pk_us]
        exact hok.of (by rw [f])
      · rw [pk_un (by omega), pk_un (by omega)]
        exact (q3 i (by omega)).of (by rw [f])
    · rw [if_neg z, pk_un z]
      obtain ⟨w1, w2, w3⟩ := hP.2.2 x hx
      refine ⟨w1, w2, fun i hi => ?_⟩
      rw [pk_un (by omega), pk_un (by omega)]
      exact (w3 i hi).of (by rw [f])
  · exact h.sc c
theorem Inv.watch {n : Nat} {s t : Mem} {v f vt l r : Int32} (h : Inv n s) (hR : R_wat s v f vt l r t) : Inv (n + 1) t := by
  rcases hR with ⟨⟨⟨i, hi, rfl⟩, hok⟩, ⟨_, _, c⟩ | ⟨h5, _, e⟩⟩ | ⟨_, _, c⟩
  · exact h.sc c
  · have hW := h.2.2.1
    have n10 := hW.2.1
    have ivs := h.1.1
    have m10 := ivs.2.1
    rw [cl i (by omega)] at hok
    obtain ⟨j, hj, rfl, _⟩ := hok
    have n8 := (ivs.2.2.1 i hi).2
    subst e
    refine h.keepW (fun q hq => watM_1 _ _ _ _ _ hq) (fun q hq => watM_n _ _ _ _ _ (by omega)) ?_
    have eW : nW (watM s (nI i) (nI j) vt l) = nW s + 1 := watM_W (by omega)
    have f25 : (watM s (nI i) (nI j) vt l).1 25 = nI (nW s + 1) := mF_1s _ _ _
    have f0 : nS (watM s (nI i) (nI j) vt l) = nS s := by unfold nS; rw [watM_1 _ _ _ _ _ (by omega)]
    obtain ⟨w1, w2, w3, w4, w5⟩ := watM_s s (nI i) (nI j) vt l
    refine ⟨by rw [f25, eW], by rw [eW]; omega, fun w hw => ?_⟩
    rw [eW] at hw
    rw [f0]
    unfold wc
    by_cases z : w = nW s
    · subst z
      rw [w1, w2, w5]
      exact ⟨⟨i, hi, rfl⟩, ⟨j, by omega, rfl⟩, rfl, Nat.zero_le _⟩
    · rw [watM_x _ _ _ _ _ (by omega) z, watM_x _ _ _ _ _ (by omega) z, watM_x _ _ _ _ _ (by omega) z]
      exact hW.2.2 w (by omega)
  · exact h.sc c
theorem Inv.begin {n : Nat} {s t : Mem} {r : Int32} (h : Inv n s) (hR : R_beg s r t) : Inv (n + 1) t := by
  rcases hR with ⟨_, _, c⟩ | ⟨hg, _, e⟩
  · exact h.sc c
  obtain ⟨h1, h2, h3, h4, ⟨ivh, ivg, ivx, hn⟩, S, c1, c2, c3⟩ := h
  have hdE := dEnd_le ivh
  subst e
  have a : ∀ q, q ≠ 23 → q ≠ 24 → (mF (mF s 23 1) 24 (nI (dEnd s))).1 q = s.1 q := fun q q1 q2 => by rw [mF_1n _ _ q2, mF_1n _ _ q1]
  have a23 : (mF (mF s 23 1) 24 (nI (dEnd s))).1 23 = 1 := by rw [mF_1n _ _ (by omega), mF_1s]
  have a24 : (mF (mF s 23 1) 24 (nI (dEnd s))).1 24 = nI (dEnd s) := mF_1s _ _ _
  have b : (mF (mF s 23 1) 24 (nI (dEnd s))).2 = s.2 := rfl
  generalize (mF (mF s 23 1) 24 (nI (dEnd s))) = t at *
  have h0 : s.1 23 = 0 := Classical.not_not.mp hg
  have eE : nE t = nE s := by unfold nE; rw [a 16 (by omega) (by omega)]
  have eEn : nEn t = nEn s := by unfold nEn; rw [a 20 (by omega) (by omega)]
  have eD : nD t = nD s := by unfold nD; rw [a 21 (by omega) (by omega)]
  have een : en t = en s := by funext k; unfold en; rw [b]
  have eB : enB t = enB s := by funext k; unfold enB; rw [een]
  have eg : gF t = dEnd s := by
    have h690 := ivh.2.2.2.2.2.2.1
    unfold gF
    rw [a24]
    exact cl _ (by omega)
  have eE' : nE' t = nE' s := by unfold nE' dEnd; rw [eD, eEn, eE, een]
  refine ⟨h1.of (a 0 (by omega) (by omega)) (fun q _ _ => by rw [b]), h2.of (a 0 (by omega) (by omega)) (a 8 (by omega) (by omega)) (by rw [b]), h3.of (a 0 (by omega) (by omega)) (a 25 (by omega) (by omega)) (by rw [b]) (by rw [b]) (by rw [b]), h4.of (a 33 (by omega) (by omega)) (by rw [b]) (by rw [b]) (by rw [b]) (a 0 (by omega) (by omega)), ⟨?_, ?_, ?_, by omega⟩, S, fun e he => ?_, ?_, fun k hk => ?_⟩
  · obtain ⟨i1, i2, i3, i4, i5, i6, i7, i8, i9⟩ := ivh
    unfold IvH
    rw [eE, eEn, eD, een, a 16 (by omega) (by omega), a 20 (by omega) (by omega), a 21 (by omega) (by omega), a23, b]
    exact ⟨i1, i2, i3, i4, i5, Or.inr rfl, i7, i8, i9⟩
  · have h690 := ivh.2.2.2.2.2.2.1
    exact ⟨by rw [a24, eg], by rw [eg]; omega⟩
  · refine ⟨fun z => ?_, fun _ => ?_⟩
    · rw [a23] at z; exact absurd z (by decide)
    · rw [eg, eB, eD, eE, eEn]
      exact ⟨dEnd_B s, fun _ => ivx.1 h0, hdE⟩
  · exact (c1 e (by omega)).of (ObE.of (a 8 (by omega) (by omega)) (by rw [b]) (by rw [b]) (by rw [b])) (by rw [b]) (fun k _ => by rw [b]; exact ⟨rfl, rfl⟩)
  · rw [eE', c2]
    unfold cur
    rw [b]
  · exact (c3 k (by omega)).of ⟨a 8 (by omega) (by omega), by rw [b], by rw [b], by rw [b], by rw [b], by rw [b], by rw [b]⟩
/-! shapes grow, what the objects see of them stays -/
def Agr (s t : Mem) : Prop := nO t = nO s ∧ (∀ o, o < nO s → sh t o = sh s o ∧ nf t (sh s o) = nf s (sh s o) ∧ ∀ f, f < nf s (sh s o) → t.2 3 (8 * sh s o + f) = s.2 3 (8 * sh s o + f) ∧ t.2 4 (8 * sh s o + f) = s.2 4 (8 * sh s o + f) ∧ t.2 7 (8 * sh s o + f) = s.2 7 (8 * sh s o + f)) ∧ ∀ o, o < nO s → ∀ b, isOf s (nI (sh s o)) b = true → isOf t (nI (sh s o)) b = true
theorem Agr.ok {s t : Mem} {x : VP} (h : OKV (wV s x)) (e : Agr s t) : OKV (wV t x) := by
  obtain ⟨e1, e2, e3⟩ := e
  obtain ⟨h1, h2, h3⟩ := h
  refine ⟨fun o ho f hf => ?_, fun o ho f hf => ?_, h3.mo (fun a b hab => ?_)⟩
  · rw [wV_nO, e1] at ho
    obtain ⟨a1, a2, a3⟩ := e2 o ho
    rw [wV_sh, wV_nf, a1, a2] at hf
    have := h1 o ho f (by rw [wV_sh, wV_nf]; exact hf)
    unfold VOK at *
    rw [wV_sh, wV_2 _ _ (by omega) (by omega), wV_10, wV_11, wV_nO] at this ⊢
    rw [a1, (a3 f hf).1, e1]
    exact this
  · rw [wV_nO, e1] at ho
    obtain ⟨a1, a2, a3⟩ := e2 o ho
    rw [wV_sh, wV_nf, a1, a2] at hf
    have := h2 o ho f (by rw [wV_sh, wV_nf]; exact hf)
    rw [wV_sh, wV_2 _ _ (q := 3) (by omega) (by omega), wV_2 _ _ (q := 4) (by omega) (by omega), wV_10, wV_11, wV_nO] at this ⊢
    rw [a1, (a3 f hf).1, (a3 f hf).2.1, e1]
    intro k i hi t' ht' et
    have := this k i hi t' ht' et
    rw [wV_isOf] at this ⊢
    rw [(e2 t' ht').1]
    exact e3 t' ht' _ this
  · obtain ⟨q1, q2, f, hf, hk, hw, i, hi, ei⟩ := hab
    rw [wV_nO, e1] at q1 q2
    obtain ⟨a1, a2, a3⟩ := e2 a q1
    rw [wV_sh, wV_nf, a1, a2] at hf
    unfold rowN at hi
    unfold rowF at ei
    rw [wV_sh, wV_2 _ _ (by omega) (by omega), a1, (a3 f hf).1] at hk hi ei
    rw [wV_sh, wV_2 _ _ (by omega) (by omega), a1, (a3 f hf).2.2] at hw
    rw [wV_10] at hi ei
    rw [wV_11] at ei
    refine ⟨q1, q2, f, by rw [wV_sh, wV_nf]; exact hf, ?_, ?_, i, ?_, ?_⟩
    · rw [wV_sh, wV_2 _ _ (by omega) (by omega)]; exact hk
    · rw [wV_sh, wV_2 _ _ (by omega) (by omega)]; exact hw
    · unfold rowN; rw [wV_sh, wV_2 _ _ (by omega) (by omega), wV_10]; exact hi
    · unfold rowF; rw [wV_sh, wV_2 _ _ (by omega) (by omega), wV_10, wV_11]; exact ei
theorem Ch.agr {s t : Mem} {S : Nat → VP} (h : Ch s S) (hO : ObE s t) (hE : Agr s t) (a10 : t.2 10 = s.2 10) (a11 : t.2 11 = s.2 11) (hH : HiE s t) : Ch t S := by
  obtain ⟨h1, h2, h3⟩ := h
  have f16 := hH.1 16 (by omega)
  have f20 := hH.1 20 (by omega)
  have f21 := hH.1 21 (by omega)
  have g22 := hH.2 22 (by omega)
  have eE : nE t = nE s := by unfold nE; rw [f16]
  have eE' : nE' t = nE' s := by unfold nE' dEnd nD nEn nE en; rw [f16, f20, f21, g22]
  refine ⟨fun e he => (h1 e (by omega)).of hO (by rw [hH.2 17 (by omega)]) (fun k _ => ⟨by rw [hH.2 18 (by omega)], by rw [hH.2 19 (by omega)]⟩), ?_, fun k hk => Agr.ok (h3 k (by omega)) hE⟩
  rw [eE', h2]
  unfold cur
  rw [a10, a11]
theorem isOfF_agr {ab ab' : Nat → Int32} {n : Nat} (hn : n < 1000) (h : ∀ i, i < n → ab' i = ab i) (hu' : ∀ i, i < n → ab i = -1 ∨ ∃ k, k < i ∧ ab i = nI k) (o : Int32) : ∀ m a, (a = -1 ∨ ∃ i, i < n ∧ a = nI i) → isOfF ab' o m a = isOfF ab o m a
  | 0, a, _ => rfl
  | m + 1, a, ha => by
    rw [isOfF, isOfF]
    by_cases q : a = -1 ∨ a = o
    · rw [if_pos q, if_pos q]
    · rw [if_neg q, if_neg q]
      obtain ⟨i, hi, rfl⟩ := ha.resolve_left (fun z => q (Or.inl z))
      rw [cl i (by omega), h i hi]
      exact isOfF_agr hn h hu' o m _ ((hu' i hi).imp id (fun ⟨k, k1, k2⟩ => ⟨k, by omega, k2⟩))
theorem FOK.mv {s t : Mem} {i i' j : Nat} (h : FOK s i j) (hS : nS s ≤ nS t) (h3 : ∀ f, f ≤ j → t.2 3 (8 * i' + f) = s.2 3 (8 * i + f)) (h4 : ∀ f, f ≤ j → t.2 4 (8 * i' + f) = s.2 4 (8 * i + f)) (h5 : t.2 5 (8 * i' + j) = s.2 5 (8 * i + j)) (h6 : t.2 6 (8 * i' + j) = s.2 6 (8 * i + j)) (hx : ∀ x g, x < nS s → g < nf s x → g < nf t x ∧ t.2 3 (8 * x + g) = s.2 3 (8 * x + g)) : FOK t i' j := by
  unfold FOK at h ⊢
  rw [h3 j (Nat.le_refl _), h4 j (Nat.le_refl _), h5, h6]
  rcases h with z | ⟨z1, x, z2, z3⟩ | ⟨z1, c, f, z2, z3, z4, z5, z6, z7, z8⟩
  · exact Or.inl z
  · exact Or.inr (Or.inl ⟨z1, x, by omega, z3⟩)
  · refine Or.inr (Or.inr ⟨z1, c, f, z2, z3, z4, z5, ?_, ?_, ?_⟩)
    · intro y
      obtain ⟨g', y1, y2, y3, y4⟩ := z6 y
      exact ⟨g', y1, y2, by rw [h3 f (by omega)]; exact y3, by rw [h3 g' (by omega)]; exact y4⟩
    · intro y
      rw [h3 f (by omega)]; exact z7 y
    · intro y
      obtain ⟨x, g', y1, y2, y3, y4, y5⟩ := z8 y
      obtain ⟨q1, q2⟩ := hx x g' y1 y3
      exact ⟨x, g', by omega, by rw [h4 f (by omega)]; exact y2, q1, y4, by rw [q2]; exact y5⟩
theorem Inv.shape {n : Nat} {s t : Mem} {v r : Int32} (h : Inv n s) (hR : R_shp s v r t) : Inv (n + 1) t := by
  rcases hR with ⟨hv, ⟨_, _, c⟩ | ⟨h5, _, e⟩⟩ | ⟨_, _, c⟩
  · exact h.sc c
  · obtain ⟨⟨ivs, ivf, ivi, ivk⟩, ivo, ivw, ivp, ihi, S, hc⟩ := h
    have n10 := ivs.2.1
    obtain ⟨oob, ohi⟩ := e.ob ivs ivo
    obtain ⟨w, k, k8, hvw, t0, ⟨e1, e2⟩, rfl⟩ := e
    have f0 : (mF t0 0 (nI (nS s + 1))).1 0 = nI (nS s + 1) := mF_1s _ _ _
    have fq : ∀ q, q ≠ 0 → (mF t0 0 (nI (nS s + 1))).1 q = s.1 q := fun q hq => by rw [mF_1n _ _ hq, e1]
    have g1 : ∀ i, i ≠ nS s → (mF t0 0 (nI (nS s + 1))).2 1 i = s.2 1 i := fun i hi => by rw [mF_2, e2, if_neg (by omega), if_neg (by omega), if_neg (by omega)]
    have g1n : (mF t0 0 (nI (nS s + 1))).2 1 (nS s) = v := by rw [mF_2, e2, if_neg (by omega), if_pos ⟨rfl, rfl⟩]
    have g2 : ∀ i, i ≠ nS s → (mF t0 0 (nI (nS s + 1))).2 2 i = s.2 2 i := fun i hi => by rw [mF_2, e2, if_neg (by omega), if_neg (by omega), if_neg (by omega)]
    have g2n : (mF t0 0 (nI (nS s + 1))).2 2 (nS s) = nI k := by rw [mF_2, e2, if_neg (by omega), if_neg (by omega), if_pos ⟨rfl, rfl⟩]
    have go : ∀ q i j, 3 ≤ q → q ≤ 7 → i < nS s → j < 8 → (mF t0 0 (nI (nS s + 1))).2 q (8 * i + j) = s.2 q (8 * i + j) := fun q i j q1 q2 hi hj => by rw [mF_2, e2, if_neg (by omega), if_neg (by omega), if_neg (by omega)]
    have gn : ∀ q j, 3 ≤ q → q ≤ 7 → j < k → (mF t0 0 (nI (nS s + 1))).2 q (8 * nS s + j) = s.2 q (8 * w + j) := fun q j q1 q2 hj => by rw [mF_2, e2, if_pos ⟨⟨q1, q2⟩, by omega, by omega⟩, show 8 * nS s + j - 8 * nS s = j by omega]
    have gz : ∀ q, 7 < q → (mF t0 0 (nI (nS s + 1))).2 q = s.2 q := fun q hq => by funext i; rw [mF_2, e2, if_neg (by omega), if_neg (by omega), if_neg (by omega)]
    generalize mF t0 0 (nI (nS s + 1)) = t at *
    have eS : nS t = nS s + 1 := by unfold nS; rw [f0]; exact cl _ (by omega)
    have enf : ∀ i, i ≠ nS s → nf t i = nf s i := fun i hi => by unfold nf; rw [g2 i hi]
    have enn : nf t (nS s) = k := by unfold nf; rw [g2n]; exact cl k (by omega)
    have eO : nO t = nO s := by unfold nO; rw [fq 8 (by omega)]
    have esh : sh t = sh s := by funext o; unfold sh; rw [gz 9 (by omega)]
    have hk0 : ∀ j, j < k → w < nS s ∧ v = nI w ∧ k = nf s w := fun j hj => hvw.resolve_left (fun z => by omega)
    refine ⟨⟨⟨by rw [f0, eS], by omega, fun i hi => ?_, fun i hi => ?_⟩, fun i hi j hj => ?_, fun i hi x hx hxi => ?_, fun i j hi hj h3 => ?_⟩, ⟨by rw [fq 8 (by omega), eO]; exact ivo.1, by rw [eO]; exact ivo.2.1, fun o ho => ?_⟩, ?_, ?_, ihi.of (Nat.le_succ _) ohi, S, hc.agr oob ⟨eO, fun o ho => ?_, fun o ho b hb => ?_⟩ (gz 10 (by omega)) (gz 11 (by omega)) ohi⟩
    · rw [eS] at hi
      by_cases z : i = nS s
      · subst z; rw [enn, g2n]; exact ⟨rfl, k8⟩
      · rw [enf i z, g2 i z]; exact ivs.2.2.1 i (by omega)
    · rw [eS] at hi
      by_cases z : i = nS s
      · subst z
        rw [g1n]
        rcases hvw with ⟨q, _⟩ | ⟨q1, q2, _⟩
        · exact Or.inl q
        · exact Or.inr ⟨w, q1, q2⟩
      · rw [g1 i z]; exact ivs.2.2.2 i (by omega)
    · rw [eS] at hi
      by_cases z : i = nS s
      · subst z
        rw [enn] at hj
        obtain ⟨hw, _, hkw⟩ := hk0 j hj
        refine (ivf w hw j (by omega)).mv (by omega) (fun f hf => gn 3 f (by omega) (by omega) (by omega)) (fun f hf => gn 4 f (by omega) (by omega) (by omega)) (gn 5 j (by omega) (by omega) hj) (gn 6 j (by omega) (by omega) hj) (fun x g' y1 y3 => ?_)
        have x8 := (ivs.2.2.1 x y1).2
        exact ⟨by rw [enf x (by omega)]; exact y3, go 3 x g' (by omega) (by omega) y1 (by omega)⟩
      · rw [enf i z] at hj
        have i8 := (ivs.2.2.1 i (by omega)).2
        refine (ivf i (by omega) j hj).mv (by omega) (fun f hf => go 3 i f (by omega) (by omega) (by omega) (by omega)) (fun f hf => go 4 i f (by omega) (by omega) (by omega) (by omega)) (go 5 i j (by omega) (by omega) (by omega) (by omega)) (go 6 i j (by omega) (by omega) (by omega) (by omega)) (fun x g' y1 y3 => ?_)
        have x8 := (ivs.2.2.1 x y1).2
        exact ⟨by rw [enf x (by omega)]; exact y3, go 3 x g' (by omega) (by omega) y1 (by omega)⟩
    · rw [eS] at hi
      rw [enf x (by omega)]
      have x8 := (ivs.2.2.1 x (by omega)).2
      by_cases z : i = nS s
      · subst z
        rw [g1n] at hxi
        rcases hvw with ⟨q, _⟩ | ⟨q1, q2, q3⟩
        · rw [q] at hxi; exact absurd hxi.symm (nI_m1 (by omega))
        · rw [q2] at hxi
          have ex : w = x := nI_inj8 (by omega) (by omega) hxi
          rw [← ex, enn]
          exact ⟨by omega, fun j hj => by rw [gn 3 j (by omega) (by omega) (by omega), go 3 w j (by omega) (by omega) q1 (by omega)]⟩
      · rw [g1 i z] at hxi
        obtain ⟨y1, y2⟩ := ivi i (by omega) x (by assumption) hxi
        rw [enf i z]
        exact ⟨y1, fun j hj => by rw [go 3 i j (by omega) (by omega) (by omega) (by omega), go 3 x j (by omega) (by omega) (by omega) (by omega)]; exact y2 j hj⟩
    · rw [eS] at hi
      by_cases z : i = nS s
      · subst z
        rw [enn] at hj
        obtain ⟨hw, _, hkw⟩ := hk0 j hj
        rw [gn 3 j (by omega) (by omega) hj] at h3
        rw [gn 7 j (by omega) (by omega) hj]
        exact ivk w j hw (by omega) h3
      · rw [enf i z] at hj
        have i8 := (ivs.2.2.1 i (by omega)).2
        rw [go 3 i j (by omega) (by omega) (by omega) (by omega)] at h3
        rw [go 7 i j (by omega) (by omega) (by omega) (by omega)]
        exact ivk i j (by omega) hj h3
    · rw [eO] at ho
      rw [esh, gz 9 (by omega), eS]
      exact ⟨(ivo.2.2 o ho).1, by have := (ivo.2.2 o ho).2; omega⟩
    · have eW : nW t = nW s := by unfold nW; rw [fq 25 (by omega)]
      refine ⟨by rw [fq 25 (by omega), eW]; exact ivw.1, by rw [eW]; exact ivw.2.1, fun x hx => ?_⟩
      rw [eW] at hx
      unfold wc
      rw [gz 26 (by omega), gz 27 (by omega), gz 30 (by omega), eS]
      obtain ⟨⟨i, y1, y2⟩, y3⟩ := ivw.2.2 x hx
      exact ⟨⟨i, by omega, y2⟩, y3⟩
    · have eP : nP t = nP s := by unfold nP; rw [fq 33 (by omega)]
      refine ⟨by rw [fq 33 (by omega), eP]; exact ivp.1, by rw [eP]; exact ivp.2.1, fun x hx => ?_⟩
      rw [eP] at hx
      unfold sp
      rw [gz 34 (by omega), gz 35 (by omega), gz 36 (by omega)]
      obtain ⟨y1, y2, y3⟩ := ivp.2.2 x hx
      refine ⟨y1, y2, fun i hi => ?_⟩
      obtain ⟨u1, u2, u3, u4⟩ := y3 i hi
      refine ⟨u1, u2, u3, fun u => ?_⟩
      obtain ⟨z, z1, z2⟩ := (u4 u).ix ivs
      rw [z2]
      show 0 ≤ nI z ∧ nI z ≤ t.1 0 - 1
      rw [f0, ixm (by omega)]
      exact ⟨nI_pos' (by omega), nI_le (by omega) (by omega)⟩
    · have hs := (ivo.2.2 o ho).2
      have s8 := (ivs.2.2.1 _ hs).2
      exact ⟨by rw [esh], enf _ (by omega), fun f hf => ⟨go 3 _ f (by omega) (by omega) hs (by omega), go 4 _ f (by omega) (by omega) hs (by omega), go 7 _ f (by omega) (by omega) hs (by omega)⟩⟩
    · unfold isOf at hb ⊢
      rw [isOfF_agr (ab := s.2 1) (n := nS s) (by omega) (fun i hi => g1 i (by omega)) ivs.2.2.2 b 10 _ (Or.inr ⟨_, (ivo.2.2 o ho).2, rfl⟩)]
      exact hb
  · exact h.sc c
