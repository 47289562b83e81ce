/-! take: the history behind it -/
theorem RwR.new {g : Gm} {h : Hp} {s : Mem} {o f c n : Nat} {F P : Nat → Int32} {v : Int32} (hk0 : s.2 3 (8 * sh s o + f) = 0 ∨ s.2 3 (8 * sh s o + f) = 1 ∨ s.2 3 (8 * sh s o + f) = 2) (hn : LnOK s o f n) (hv : v = plV (s.2 3 (8 * sh s o + f)) n F) (hP : s.2 3 (8 * sh s o + f) = 2 → ∀ k, k < n → k < 6 → P k = F k) (ic : Im g h c (20, arrL n F)) : RwR g h s o f c v P := by
  subst hv
  refine ⟨fun e => ⟨n, hn.2.2 e, by unfold plV; rw [e]; rfl⟩, ?_⟩
  have q1 : rwN (s.2 3 (8 * sh s o + f)) (plV (s.2 3 (8 * sh s o + f)) n F) = n := by
    unfold rwN
    rcases hk0 with y | y | y
    · rw [y]; exact (hn.1 y).symm
    · rw [y]; exact (hn.2.1 y).symm
    · rw [y, if_pos rfl]
      unfold plV
      rw [if_neg (by decide)]
      exact cl n (by have := hn.2.2 y; omega)
  have q2 : arrL (rwN (s.2 3 (8 * sh s o + f)) (plV (s.2 3 (8 * sh s o + f)) n F)) (rwF (s.2 3 (8 * sh s o + f)) (plV (s.2 3 (8 * sh s o + f)) n F) P) = arrL n F := by
    rw [q1]
    refine arrL_congr (fun i hi => ?_)
    unfold rwF
    rcases hk0 with y | y | y
    · have := hn.1 y
      rw [y, if_neg (by decide)]
      unfold plV
      rw [if_pos (Or.inl rfl), show i = 0 by omega]
    · have := hn.2.1 y
      rw [y, if_neg (by decide)]
      unfold plV
      rw [if_pos (Or.inr rfl), show i = 0 by omega]
    · rw [if_pos y]
      have := hn.2.2 y
      exact hP y i hi (by omega)
  rw [q2]
  exact ic
/-- an edit's cell with its rows, ahead of its place in the history -/
def EdN (g : Gm) (h : Hp) (s : Mem) (o f n : Nat) (F : Nat → Int32) (x : Nat) : Prop := ∃ b c, Im g h x (1, [.int (nI o), .int (nI f), .ref b, .ref c]) ∧ Im g h b (20, arrL (rowN s o f) (rowF s o f)) ∧ Im g h c (20, arrL n F)
theorem kinds {s : Mem} (ivo : IvO s) (ivf : IvF s) {o f : Nat} (ho : o < nO s) (hf : f < nf s (sh s o)) (hk : s.2 3 (8 * sh s o + f) ≠ 3) : s.2 3 (8 * sh s o + f) = 0 ∨ s.2 3 (8 * sh s o + f) = 1 ∨ s.2 3 (8 * sh s o + f) = 2 := by
  rcases ivf _ (ivo.2.2 o ho).2 f hf with y | ⟨y | y, _⟩ | ⟨y, _⟩
  · exact Or.inl y
  · exact Or.inr (Or.inl y)
  · exact Or.inr (Or.inr y)
  · exact absurd y hk
theorem EdN.ed {g : Gm} {h : Hp} {s t : Mem} {o f n x : Nat} {F : Nat → Int32} (ivo : IvO s) (ivf : IvF s) (ivv : IvV s) (ho : o < nO s) (hf : f < nf s (sh s o)) (hk : s.2 3 (8 * sh s o + f) ≠ 3) (hn : LnOK s o f n) (H : EdN g h s o f n F x) (hO : ObE s t) (hT : TkH s o f n F t) : EdR g h t (nE' s) x := by
  obtain ⟨b, c, q1, q2, q3⟩ := H
  obtain ⟨_, _, _, _, _, _, t17, _, t18, t18b, t19, t19b⟩ := hT
  obtain ⟨o1, o2, o3⟩ := hO o ho
  obtain ⟨f1, f2⟩ := o3 f hf
  have hkt : t.2 3 (8 * sh t o + f) = s.2 3 (8 * sh s o + f) := by rw [o2]; exact f2
  have k0 := kinds ivo ivf ho hf hk
  have hb : RwR g h s o f b (s.2 10 (8 * o + f)) (fun i => s.2 11 (6 * (8 * o + f) + i)) := ⟨fun e => by obtain ⟨n, n1, n2, _⟩ := (ivv o ho f hf).2 e; exact ⟨n, n1, n2⟩, q2⟩
  have hc : RwR g h s o f c (t.2 19 (7 * nE' s)) (fun i => t.2 19 (7 * nE' s + 1 + i)) := RwR.new k0 hn t19 (fun e k h1 h2 => t19b e k h1 h2) q3
  exact ⟨o, f, b, c, o1, by rw [o2]; exact f1, by rw [hkt]; exact hk, t17, q1, hb.mv (Stq.rf g h (fun _ => True)) trivial hkt t18 (fun i hi => t18b i hi), hc.mv (Stq.rf g h (fun _ => True)) trivial hkt rfl (fun i hi => rfl)⟩
theorem Kept.open_ {G : Gk} {g : Gm} {h : Hp} {s t : Mem} {o f n x : Nat} {F : Nat → Int32} (ivh : IvH s) (ivx : IvX s) (hE : nE' s < 1000) (K : Kept G g h s x) (he : EdR g h t (nE' s) x) (hO : ObE s t) (hT : TkH s o f n F t) (h23 : s.1 23 ≠ 0) : PH G g h t := by
  obtain ⟨hz, dn, v, c8, lu, hl, hg, hc⟩ := K
  obtain ⟨_, ld, y, es, ev, iy, le, hes, hed⟩ := hc.resolve_right (fun q => h23 q.1)
  obtain ⟨t16, t20, t21, t23, t24, t22, t17, tes, _⟩ := hT
  have D60 : nD s ≤ 60 := by have := ivh.2.2.2.1; have := ivh.2.2.2.2.1; omega
  have eD : nD t = nD s := by unfold nD; rw [t21]
  have eEn : nEn t = nD s := by unfold nEn; rw [t20]; exact cl _ (by omega)
  have enE : nE t = nE' s + 1 := by unfold nE; rw [t16]; exact cl _ (by omega)
  have eG : gF t = gF s := by unfold gF; rw [t24]
  have een : en t = en s := by funext k; unfold en; rw [t22]
  have eB : enB t = enB s := by funext k; unfold enB; rw [een]
  have hop := nE'_op ivh ivx h23
  have egs : gsz t = gsz s + 1 := by
    have : gsz t = if gF t < nE t ∧ nEn t = nD t then nE t - gF t else 0 := rfl
    rw [this, eG, enE, eEn, eD, if_pos ⟨by omega, rfl⟩]
    omega
  refine ⟨hz, dn, [], v, c8, ld, lu, by rw [eD]; exact hl, by rw [eEn, eD]; simp, fun k z hk => ?_, fun j z hj => by simp at hj, ?_⟩
  · have hk2 : k < nD s := by rw [← hl]; exact (List.getElem?_eq_some_iff.mp hk).1
    rw [eB, een]
    refine (hg k z hk).mv (Stq.rf g h (fun _ => True)) trivial hO rfl (fun i hi => ?_)
    have a1 := enc_le ivh hk2 ivh.2.2.2.1
    have a2 := enB_nE' ivh ivx
    exact tes _ (by omega)
  · refine Or.inr ⟨by rw [t23]; exact h23, y, es ++ [x], ev, iy, le, by rw [egs, List.length_append, hes]; rfl, fun i z hz' => ?_⟩
    rw [eG]
    rcases snoc_get hz' with ⟨z1, z2⟩ | ⟨z1, z2⟩
    · have := tes (gF s + i) (by omega)
      exact (hed i z z2).mv (Stq.rf g h (fun _ => True)) trivial hO this.1 this.2
    · subst z1 z2
      rw [hes, ← hop]
      exact he
theorem Kept.shut {G : Gk} {g : Gm} {h : Hp} {s t3 t : Mem} {o f n x : Nat} {F : Nat → Int32} (ivh : IvH s) (ivx : IvX s) (hE : nE' s < 1000) (K : Kept G g h s x) (he : EdR g h t3 (nE' s) x) (hO : ObE s t3) (hT : TkH s o f n F t3) (h23 : s.1 23 = 0) (hEnt : EntE t3 t) : PH G g h t := by
  obtain ⟨hz, dn, v, c8, lu, hl, hg, hc⟩ := K
  obtain ⟨_, ev, y, a, iy, la, ld⟩ := hc.resolve_left (fun q => q.1 h23)
  obtain ⟨t16, t20, t21, t23, t24, t22, t17, tes, _⟩ := hT
  have D60 : nD s ≤ 60 := by have := ivh.2.2.2.1; have := ivh.2.2.2.2.1; omega
  have DE := ivh.2.2.2.1
  have eEn : nEn t3 = nD s := by unfold nEn; rw [t20]; exact cl _ (by omega)
  have enE : nE t3 = nE' s + 1 := by unfold nE; rw [t16]; exact cl _ (by omega)
  have een : en t3 = en s := by funext k; unfold en; rw [t22]
  have hno := nE'_no ivh ivx h23
  obtain ⟨g0, n0, hcase, e16, e20, e21, eF, eA, eR, e22⟩ := hEnt
  rw [eEn, een] at hcase
  rw [enE] at e16 eR e22
  have enle : ∀ k, k < nD s → en s k ≤ nE' s := fun k hk => by rw [hno]; exact enc_le ivh hk DE
  have hO2 : ObE t3 t := fun o ho => by
    have a9 := eA 9 (by omega) (by omega) (by omega) (by omega)
    have a2 := eA 2 (by omega) (by omega) (by omega) (by omega)
    have a3 := eA 3 (by omega) (by omega) (by omega) (by omega)
    refine ⟨by unfold nO; rw [eF 8 (by omega) (by omega) (by omega)]; exact ho, by unfold sh; rw [a9], fun f hf => ⟨by unfold nf; rw [a2]; exact hf, by rw [a3]⟩⟩
  have hO3 : ObE s t := fun o ho => by
    obtain ⟨a1, a2, a3⟩ := hO o ho
    obtain ⟨b1, b2, b3⟩ := hO2 o a1
    refine ⟨b1, by rw [b2, a2], fun f hf => ?_⟩
    obtain ⟨c1, c2⟩ := a3 f hf
    rw [a2] at b3
    obtain ⟨d1, d2⟩ := b3 f c1
    exact ⟨d1, by rw [d2, c2]⟩
  -- the shift
  have hsh : ∃ dl, n0 + dl = nD s ∧ (∀ k, k < n0 → en t k + g0 = en s (k + dl) ∧ enB t k + g0 = enB s (k + dl)) ∧ enB t n0 + g0 = nE' s ∧ (∀ k z, k < n0 → (pshL dn y)[k]? = some z → dn[k + dl]? = some z) ∧ (pshL dn y)[n0]? = some y ∧ (pshL dn y).length = n0 + 1 := by
    rcases hcase with ⟨c1, c2, c3, c4⟩ | ⟨c1, c2, c3, c4⟩
    · have hmono : ∀ k, k < 60 → g0 ≤ en s k := fun k hk => by rw [c2]; have := enc_mono ivh k 0 (by omega); rw [Nat.zero_add] at this; exact this
      have ent : ∀ k, k < 59 → en t k + g0 = en s (k + 1) := fun k hk => by
        have h1 : en t k = en s (k + 1) - g0 := by unfold en at *; rw [c4 k hk]; exact cl _ (by have := enle (k + 1) (by omega); unfold en at this; omega)
        have := hmono (k + 1) (by omega)
        omega
      have hps : pshL dn y = dn.eraseIdx 0 ++ [y] := by unfold pshL; rw [if_pos (by omega)]
      have hl1 : (dn.eraseIdx 0).length = 59 := by rw [List.length_eraseIdx, if_pos (by omega)]; omega
      refine ⟨1, by omega, fun k hk => ⟨ent k (by omega), ?_⟩, ?_, fun k z hk hz' => ?_, ?_, ?_⟩
      · unfold enB
        rw [if_neg (show ¬ k + 1 = 0 by omega), Nat.add_sub_cancel]
        by_cases z : k = 0
        · rw [if_pos z, z]; omega
        · rw [if_neg z]
          have := ent (k - 1) (by omega)
          rw [show k - 1 + 1 = k by omega] at this
          exact this
      · unfold enB
        rw [if_neg (by omega), c3, hno]
        have := ent 58 (by omega)
        unfold enB
        rw [if_neg (by omega), c1]
        exact this
      · rw [hps, List.getElem?_append_left (by omega), List.getElem?_eraseIdx, if_neg (by omega)] at hz'
        exact hz'
      · rw [hps, List.getElem?_append_right (by omega), hl1, c3]; rfl
      · rw [hps, List.length_append, hl1, c3]; rfl
    · have ent : ∀ k, k < n0 → en t k = en s k := fun k hk => by unfold en; rw [c4 k hk, t22]
      have hps : pshL dn y = dn ++ [y] := by unfold pshL; rw [if_neg (by omega)]
      have entB : ∀ k, k ≤ n0 → enB t k = enB s k := fun k hk => by
        unfold enB
        by_cases z : k = 0
        · rw [if_pos z, if_pos z]
        · rw [if_neg z, if_neg z, ent (k - 1) (by omega)]
      refine ⟨0, by omega, fun k hk => ⟨by rw [ent k hk, c2]; rfl, by rw [entB k (by omega), c2]; rfl⟩, by rw [entB n0 (Nat.le_refl _), c2, hno, c3]; rfl, fun k z hk hz' => ?_, ?_, ?_⟩
      · rw [hps, List.getElem?_append_left (by omega)] at hz'
        exact hz'
      · rw [hps, List.getElem?_append_right (by omega), hl, c3, Nat.sub_self]; rfl
      · rw [hps, List.length_append, hl, c3]; rfl
  obtain ⟨dl, s1, s2, s3, s4, s5, s6⟩ := hsh
  have n60 : n0 < 60 := by rcases hcase with ⟨_, _, c3, _⟩ | ⟨c1, _, c3, _⟩ <;> omega
  have g0le : g0 ≤ nE' s := by
    rcases hcase with ⟨c1, c2, _⟩ | ⟨_, c2, _⟩
    · rw [c2]; exact enle 0 (by omega)
    · omega
  have eDt : nD t = n0 + 1 := by unfold nD; rw [e21]; exact cl _ (by omega)
  have eEt : nEn t = n0 + 1 := by unfold nEn; rw [e20]; exact cl _ (by omega)
  have enn : en t n0 = nE' s + 1 - g0 := by unfold en; rw [e22]; exact cl _ (by omega)
  refine ⟨hz, pshL dn y, [], v, c8, ld, lu, by rw [eDt]; exact s6, by rw [eEt, eDt]; simp, fun k z hk => ?_, fun j z hj => by simp at hj, Or.inl ⟨by rw [eF 23 (by omega) (by omega) (by omega), t23]; exact h23, ev⟩⟩
  have hklt : k < n0 + 1 := by rw [← s6]; exact (List.getElem?_eq_some_iff.mp hk).1
  by_cases hkn : k = n0
  · subst hkn
    rw [s5] at hk
    cases hk
    refine ⟨a, [x], iy, la, by rw [enn]; simp; omega, fun i w hw => ?_⟩
    have hi0 : i = 0 := by have := (List.getElem?_eq_some_iff.mp hw).1; simpa using this
    subst hi0
    cases hw
    have hr := eR (enB t k) (by omega)
    rw [s3] at hr
    exact he.mv (Stq.rf g h (fun _ => True)) trivial hO2 (by rw [Nat.add_zero]; exact hr.1) (fun q hq => by rw [Nat.add_zero]; exact hr.2 q hq)
  · have hk2 : k < n0 := by omega
    obtain ⟨a1, a2⟩ := s2 k hk2
    have a3 := enle (k + dl) (by omega)
    refine (hg (k + dl) z (s4 k z hk2 hk)).mv (Stq.rf g h (fun _ => True)) trivial hO3 (by omega) (fun i hi => ?_)
    have hr := eR (enB t k + i) (by omega)
    have e1 : enB t k + i + g0 = enB s (k + dl) + i := by omega
    rw [e1] at hr
    obtain ⟨b1, b2⟩ := tes (enB s (k + dl) + i) (by omega)
    exact ⟨by rw [hr.1]; exact b1, fun q hq => ⟨by rw [(hr.2 q hq).1]; exact (b2 q hq).1, by rw [(hr.2 q hq).2]; exact (b2 q hq).2⟩⟩
