/-! the invariant kept: copy -/
theorem cpd_cs {N : Nat} {b : Bf} (hN : N ≤ 60) (hb : bOK N b) {n0 u : Nat} (hu' : u < N) : (¬ pl b u ∧ cpd b.2.2 n0 (nI u) = nI u) ∨ ∃ k, k < b.1 ∧ pl b u ∧ b.2.1 k = nI u ∧ cpd b.2.2 n0 (nI u) = nI (n0 + k) := by
  by_cases q : b.2.2 u = -1
  · left
    refine ⟨fun z => z q, ?_⟩
    unfold cpd
    rw [cl u (by omega)]
    exact if_pos (Or.inr q)
  · right
    obtain ⟨k, k1, k2, k3⟩ := (hb.2 u hu').resolve_left q
    refine ⟨k, k1, q, k3, ?_⟩
    unfold cpd
    rw [cl u (by omega), if_neg (fun z => z.elim (fun w => nI_miss (by omega) w) q), k2, nI_add]
theorem Inv.copy {n : Nat} {s t : Mem} {v r : Int32} (h : Inv n s) (hR : R_cpy s v r t) : Inv (n + 1) t := by
  rcases hR with ⟨⟨o, ho, rfl⟩, ⟨_, _, c⟩ | ⟨h60, _, e⟩⟩ | ⟨_, _, c⟩
  · exact h.sc c
  · obtain ⟨ish, ivo, ivw, ivp, ihi, S, hc⟩ := h
    have ivs := ish.1
    have n10 := ivs.2.1
    have n60 := ivo.2.1
    rw [cl o (by omega)] at e h60
    obtain ⟨ivv, lty, ac⟩ := hc.now ihi.1
    have hb := findB_ok ivo ivv o ho
    have hle := hb.le (by omega)
    obtain ⟨fi, _⟩ := find_iff ivo ivv ho
    obtain ⟨oob, ohi⟩ := e.ob ivo (by omega)
    obtain ⟨ivot, eO, eS⟩ := e.ivo ivo hb (Nat.le_refl _) (by omega)
    generalize findB s o = b at *
    obtain ⟨e1, e2, e3, e4, e5, e6, e7, e8, _⟩ := e
    have fq : ∀ q, q ≠ 8 → q ≠ 15 → t.1 q = s.1 q := fun q q1 q2 => by rw [e2 q q1, sB_1 _ _ q2]
    have gq : ∀ q, (q ≠ 9 ∧ q ≠ 10 ∧ q ≠ 11 ∧ q ≠ 13 ∧ q ≠ 14) → t.2 q = s.2 q := fun q hq => by rw [e3 q hq.1 hq.2.1 hq.2.2.1, sB_2 _ _ hq.2.2.2.1 hq.2.2.2.2]
    have enf : nf t = nf s := by funext j; unfold nf; rw [gq 2 (by omega)]
    have g3 := gq 3 (by omega)
    have eso : ∀ x, x < nO s → sh t x = sh s x := fun x hx => by unfold sh; rw [e4 x hx]
    have row : ∀ k, k < b.1 → orow b k < nO s ∧ b.2.1 k = nI (orow b k) ∧ pl b (orow b k) ∧ sh t (nO s + k) = sh s (orow b k) := fun k hk => by
      obtain ⟨x, hx, ex, px⟩ := hb.1 k hk
      have : orow b k = x := by unfold orow; rw [ex]; exact cl x (by omega)
      rw [this]
      refine ⟨hx, ex, fun z => ?_, ?_⟩
      · rw [px] at z; exact nI_m1 (by omega) z
      · unfold sh; rw [e5 k hk, this]
    have rof : ∀ k u, k < b.1 → u < nO s → b.2.1 k = nI u → orow b k = u := fun k u hk hu' hku => by unfold orow; rw [hku]; exact cl u (by omega)
    refine ⟨ish.of (fq 0 (by omega) (by omega)) (fun q q1 q2 => gq q (by omega)), ivot, ivw.of (fq 0 (by omega) (by omega)) (fq 25 (by omega) (by omega)) (gq 26 (by omega)) (gq 27 (by omega)) (gq 30 (by omega)), ivp.of (fq 33 (by omega) (by omega)) (gq 34 (by omega)) (gq 35 (by omega)) (gq 36 (by omega)) (fq 0 (by omega) (by omega)), ihi.of (Nat.le_succ _) ohi, _, hc.grw (p := fun a => orow b (a - nO s)) ivs ivo (by omega) oob ohi (by omega) (fun q q1 q2 => gq q (by omega)) e6 e7 ⟨fun x hx1 hx2 f hf => ?_, fun a y ha hab => ?_⟩ ac⟩
    · obtain ⟨k, rfl⟩ : ∃ k, x = nO s + k := ⟨x - nO s, by omega⟩
      have hk : k < b.1 := by omega
      obtain ⟨r1, r2, r3, r4⟩ := row k hk
      rw [r4, enf] at hf
      have f8 := (ivs.2.2.1 _ (ivo.2.2 _ r1).2).2
      obtain ⟨c1, c2⟩ := e8 k hk f hf
      have vk := ivv _ r1 f hf
      unfold VOK
      rw [r4, g3]
      refine ⟨⟨fun k1 => ?_, fun k2 => ?_⟩, fun k2 i hi y hy ey => ?_⟩
      · rw [c1, if_pos k1]
        rcases vk.1 k1 with z | ⟨u, hu', eu⟩
        · rw [z]; left; exact if_pos (Or.inl rfl)
        · rw [eu]
          rcases cpd_cs (n0 := nO s) n60 hb hu' with ⟨_, z⟩ | ⟨k', k1', _, _, z⟩
          · exact Or.inr ⟨u, by omega, z⟩
          · exact Or.inr ⟨nO s + k', by omega, z⟩
      · rw [c1, if_neg (by rw [k2]; decide)]
        obtain ⟨len, l6, el, pl'⟩ := vk.2 k2
        refine ⟨len, l6, el, fun i hi => ?_⟩
        obtain ⟨u, hu', eu⟩ := pl' i hi
        rw [c2 k2 i (by omega) (by rw [el, cl len (by omega)]; exact hi), eu]
        rcases cpd_cs (n0 := nO s) n60 hb hu' with ⟨_, z⟩ | ⟨k', k1', _, _, z⟩
        · exact ⟨u, by omega, z⟩
        · exact ⟨nO s + k', by omega, z⟩
      · rw [c1, if_neg (by rw [k2]; decide)] at hi
        obtain ⟨len, l6, el, pl'⟩ := vk.2 k2
        have hi' : i < len := by rw [el, cl len (by omega)] at hi; exact hi
        obtain ⟨u, hu', eu⟩ := pl' i hi'
        have key := lty _ r1 f hf k2 i hi u hu' eu
        rw [c2 k2 i (by omega) hi, eu] at ey
        rcases cpd_cs (n0 := nO s) n60 hb hu' with ⟨_, z⟩ | ⟨k', k1', _, z1, z⟩
        · rw [z] at ey
          rw [← nI_inj8 (by omega) (by omega) ey, eso u hu']
          exact key
        · rw [z] at ey
          rw [← nI_inj8 (by omega) (by omega) ey, (row k' k1').2.2.2, rof k' u k1' hu' z1]
          exact key
    · obtain ⟨q1, q2, f, hf, hk', hw, i, hi, ei⟩ := hab
      obtain ⟨k, rfl⟩ : ∃ k, a = nO s + k := ⟨a - nO s, by omega⟩
      have hk : k < b.1 := by omega
      obtain ⟨r1, r2, r3, r4⟩ := row k hk
      rw [r4, enf] at hf
      rw [r4, g3] at hk'
      rw [r4, gq 7 (by omega)] at hw
      have f8 := (ivs.2.2.1 _ (ivo.2.2 _ r1).2).2
      obtain ⟨c1, c2⟩ := e8 k hk f hf
      have hin := row_in ivv r1 hf hk'
      unfold rowN at hi
      unfold rowF at ei
      rw [r4, g3, c1] at hi ei
      have key : ∃ u, u < nO s ∧ rowF s (orow b k) f i = nI u ∧ i < rowN s (orow b k) f ∧ nI y = cpd b.2.2 (nO s) (nI u) := by
        rcases hk' with k1 | k2
        · rw [k1, if_pos rfl] at hi ei
          have hi0 : i < rowN s (orow b k) f := by unfold rowN rwN; rw [k1, if_neg (by decide), if_neg (by decide)]; unfold rwN at hi; rw [if_neg (by decide), if_neg (by decide)] at hi; exact hi
          unfold rwF at ei
          rw [if_neg (by decide)] at ei
          have er : rowF s (orow b k) f i = s.2 10 (8 * orow b k + f) := by unfold rowF rwF; rw [k1, if_neg (by decide)]
          have hin1 := hin.1 i hi0
          rw [er] at hin1
          rcases hin1 with z | ⟨u, hu', eu⟩
          · rw [z] at ei
            have : cpd b.2.2 (nO s) MISS = MISS := if_pos (Or.inl rfl)
            rw [this] at ei
            exact absurd ei.symm (nI_miss (by omega))
          · exact ⟨u, hu', by rw [er, eu], hi0, by rw [← eu]; exact ei.symm⟩
        · rw [k2, if_neg (by decide)] at hi ei
          have hi0 : i < rowN s (orow b k) f := by unfold rowN; rw [k2]; exact hi
          have er : rowF s (orow b k) f i = s.2 11 (6 * (8 * orow b k + f) + i) := by unfold rowF rwF; rw [k2, if_pos rfl]
          have hin1 := hin.1 i hi0
          rw [er] at hin1
          unfold rwF at ei
          rw [if_pos rfl] at ei
          dsimp only at ei
          unfold rwN at hi
          rw [if_pos rfl] at hi
          rw [c2 k2 i (by have := hin.2; omega) hi] at ei
          rcases hin1 with z | ⟨u, hu', eu⟩
          · rw [z] at ei
            have : cpd b.2.2 (nO s) MISS = MISS := if_pos (Or.inl rfl)
            rw [this] at ei
            exact absurd ei.symm (nI_miss (by omega))
          · exact ⟨u, hu', by rw [er, eu], hi0, by rw [← eu]; exact ei.symm⟩
      obtain ⟨u, hu', eu, hi0, ey⟩ := key
      have hd : Hd s (orow b k) u := ⟨r1, hu', f, hf, hk', hw, i, hi0, eu⟩
      have pu : pl b u := (fi u hu').mpr (((fi _ r1).mp r3).st hd)
      rcases cpd_cs (n0 := nO s) n60 hb hu' with ⟨z, _⟩ | ⟨k', k1', _, z1, z⟩
      · exact absurd pu z
      · rw [z] at ey
        have : y = nO s + k' := nI_inj8 (by omega) (by omega) ey
        subst this
        refine ⟨by omega, ?_⟩
        dsimp only
        rw [show nO s + k - nO s = k by omega, show nO s + k' - nO s = k' by omega, rof k' u k1' hu' z1]
        exact hd
  · exact h.sc c
