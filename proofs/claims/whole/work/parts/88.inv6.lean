/-! the invariant kept: set, lead, unset, insert, remove, sort -/
/-- what stands in the new row -/
def RwN (s : Mem) (o f n : Nat) (F : Nat → Int32) : Prop := (s.2 3 (8 * sh s o + f) = 1 → F 0 = MISS ∨ ∃ t, t < nO s ∧ F 0 = nI t) ∧ (s.2 3 (8 * sh s o + f) = 2 → n ≤ 6 ∧ ∀ i, i < n → ∃ t, t < nO s ∧ F i = nI t ∧ isOf s (nI (sh s t)) (s.2 4 (8 * sh s o + f)) = true)
theorem OKV.put {s : Mem} {o f n u : Nat} {F : Nat → Int32} {x : VP} (ivs : IvS s) (ivo : IvO s) (h : OKV s) (ho : o < nO s) (hf : f < nf s (sh s o)) (hx : PutV s o f n F x) (hr : RwN s o f n F) (hed : ∀ b, b < nO s → ((s.2 3 (8 * sh s o + f) = 1 ∧ F 0 = nI b) ∨ (s.2 3 (8 * sh s o + f) = 2 ∧ ∃ i, i < n ∧ F i = nI b)) → s.2 7 (8 * sh s o + f) &&& 4 = 0 → Hd s o b ∨ (b = u ∧ ¬ RT (Hd s) u o)) : OKV (wV s x) := by
  obtain ⟨h1, h2, h3⟩ := h
  obtain ⟨x1, x2, x3, x4⟩ := hx
  have n60 := ivo.2.1
  have n8 : ∀ a, a < nO s → nf s (sh s a) ≤ 8 := fun a ha => (ivs.2.2.1 _ (ivo.2.2 a ha).2).2
  have u3 : (wV s x).2 3 = s.2 3 := wV_2 _ _ (by omega) (by omega)
  have u4 : (wV s x).2 4 = s.2 4 := wV_2 _ _ (by omega) (by omega)
  have u7 : (wV s x).2 7 = s.2 7 := wV_2 _ _ (by omega) (by omega)
  have f8 := n8 o ho
  have apart : ∀ a g, g < 8 → ¬ (a = o ∧ g = f) → 8 * a + g ≠ 8 * o + f := fun a g hg hne q => hne ⟨by omega, by omega⟩
  have old11 : ∀ a g i, g < 8 → i < 6 → ¬ (a = o ∧ g = f) → x.2 (6 * (8 * a + g) + i) = s.2 11 (6 * (8 * a + g) + i) := fun a g i hg hi hne => by
    have := apart a g hg hne
    exact x2 _ (by omega)
  have pl1 : s.2 3 (8 * sh s o + f) = 1 → x.1 (8 * o + f) = F 0 := fun k => by rw [x3, k]; rfl
  have pl2 : s.2 3 (8 * sh s o + f) = 2 → x.1 (8 * o + f) = nI n := fun k => by rw [x3, k]; unfold plV; rw [if_neg (by decide)]
  refine ⟨fun a ha g hg => ?_, fun a ha g hg => ?_, ?_⟩
  · rw [wV_nO] at ha
    rw [wV_sh, wV_nf] at hg
    have a8 := n8 a ha
    by_cases z : a = o ∧ g = f
    · obtain ⟨rfl, rfl⟩ := z
      unfold VOK
      rw [u3, wV_sh, wV_10, wV_11, wV_nO]
      refine ⟨fun k => by rw [pl1 k]; exact hr.1 k, fun k => ?_⟩
      obtain ⟨r1, r2⟩ := hr.2 k
      refine ⟨n, r1, pl2 k, fun i hi => ?_⟩
      obtain ⟨t, t1, t2, _⟩ := r2 i hi
      exact ⟨t, t1, by rw [x4 k i hi]; exact t2⟩
    · exact (h1 a ha g hg).up (by rw [u3, wV_sh]) (by rw [wV_10]; exact x1 _ (apart a g (by omega) z)) (fun i hi => by rw [wV_11]; exact old11 a g i (by omega) hi z) (Nat.le_refl _)
  · rw [wV_nO] at ha ⊢
    rw [wV_sh, wV_nf] at hg
    rw [u3, u4, wV_10, wV_11, wV_sh]
    have a8 := n8 a ha
    intro k i hi t ht et
    rw [wV_isOf]
    by_cases z : a = o ∧ g = f
    · obtain ⟨rfl, rfl⟩ := z
      obtain ⟨r1, r2⟩ := hr.2 k
      rw [pl2 k, cl n (by omega)] at hi
      rw [x4 k i hi] at et
      obtain ⟨t', t1, t2, t3⟩ := r2 i hi
      rw [nI_inj8 (by omega) (by omega) (et.symm.trans t2)]
      exact t3
    · rw [x1 _ (apart a g (by omega) z)] at hi
      obtain ⟨len, l6, el, _⟩ := (h1 a ha g hg).2 k
      have hi6 : i < 6 := by rw [el, cl len (by omega)] at hi; omega
      rw [old11 a g i (by omega) hi6 z] at et
      exact h2 a ha g hg k i hi t ht et
  · have key : ∀ a b, Hd (wV s x) a b → Hd s a b ∨ (a = o ∧ b = u ∧ ¬ RT (Hd s) u o) := by
      intro a b hab
      obtain ⟨q1, q2, g, hg, hk', hw, i, hi, ei⟩ := hab
      rw [wV_nO] at q1 q2
      rw [wV_sh, wV_nf] at hg
      have a8 := n8 a q1
      unfold rowN at hi
      unfold rowF at ei
      rw [wV_sh, u3] at hk' hi ei
      rw [wV_sh, u7] at hw
      rw [wV_10] at hi ei
      rw [wV_11] at ei
      by_cases z : a = o ∧ g = f
      · obtain ⟨rfl, rfl⟩ := z
        have : Hd s a b ∨ (b = u ∧ ¬ RT (Hd s) u a) := by
          refine hed b q2 ?_ hw
          rcases hk' with k | k
          · left
            refine ⟨k, ?_⟩
            rw [k] at ei
            unfold rwF at ei
            rw [if_neg (by decide), pl1 k] at ei
            exact ei
          · right
            rw [k] at hi ei
            unfold rwN at hi
            unfold rwF at ei
            rw [if_pos rfl, pl2 k, cl n (by have := (hr.2 k).1; omega)] at hi
            rw [if_pos rfl] at ei
            dsimp only at ei
            rw [x4 k i hi] at ei
            exact ⟨k, i, hi, ei⟩
        exact this.imp id (fun w => ⟨rfl, w⟩)
      · left
        rw [x1 _ (apart a g (by omega) z)] at hi ei
        have hr6 := (row_in h1 q1 hg hk').2
        unfold rowN at hr6
        refine ⟨q1, q2, g, hg, hk', hw, i, hi, ?_⟩
        rw [← ei]
        unfold rowF rwF
        by_cases y : s.2 3 (8 * sh s a + g) = 2
        · rw [if_pos y, if_pos y]
          exact (old11 a g i (by omega) (by omega) z).symm
        · rw [if_neg y, if_neg y]
    by_cases hn : RT (Hd s) u o
    · exact h3.mo (fun a b hab => (key a b hab).resolve_right (fun q => q.2.2 hn))
    · exact h3.one (fun a b hab => (key a b hab).imp id (fun q => ⟨q.1, q.2.1⟩)) hn
theorem PutV.sc {s s' : Mem} {o f n : Nat} {F : Nat → Int32} {x : VP} (c : Sc s s') (h : PutV s' o f n F x) : PutV s o f n F x := by
  unfold PutV at *
  have es : sh s' = sh s := by funext z; unfold sh; rw [c.2 9 rfl]
  rw [c.2 10 rfl, c.2 11 rfl, c.2 3 rfl, es] at h
  exact h
/-- an edit that is taken -/
theorem Inv.edit {n m o f u : Nat} {s s' t : Mem} {F : Nat → Int32} (h : Inv n s) (hn : n < 512) (c : Sc s s') (hT : TkE s' o f m F t) (ho : o < nO s) (hf : f < nf s (sh s o)) (hk : s.2 3 (8 * sh s o + f) ≠ 3) (hr : RwN s o f m F) (hed : ∀ b, b < nO s → ((s.2 3 (8 * sh s o + f) = 1 ∧ F 0 = nI b) ∨ (s.2 3 (8 * sh s o + f) = 2 ∧ ∃ i, i < m ∧ F i = nI b)) → s.2 7 (8 * sh s o + f) &&& 4 = 0 → Hd s o b ∨ (b = u ∧ ¬ RT (Hd s) u o)) : Inv (n + 1) t := by
  have es : sh s' = sh s := by funext z; unfold sh; rw [c.2 9 rfl]
  have enf : nf s' = nf s := by funext z; unfold nf; rw [c.2 2 rfl]
  have eO : nO s' = nO s := by unfold nO; rw [c.1 8 rfl]
  obtain ⟨ish, ivo, _, _, ihi, S, hc⟩ := id h
  refine (h.sc0 c).take hn hT (by rw [eO]; exact ho) (by rw [es, enf]; exact hf) (by rw [es, c.2 3 rfl]; exact hk) (fun x hx => ?_)
  exact (OKV.put ish.1 ivo (hc.now ihi.1) ho hf (hx.sc c) hr hed).of ⟨c.1 8 rfl, c.2 1 rfl, c.2 2 rfl, c.2 3 rfl, c.2 4 rfl, c.2 7 rfl, c.2 9 rfl⟩
theorem SetE.tk' {s s' t : Mem} {o f : Nat} {v : Int32} (c : Sc s s') (hk : s.2 3 (8 * sh s o + f) = 0 ∨ s.2 3 (8 * sh s o + f) = 1) (H : SetE s' o f v t) : TkE s' o f 1 (fun _ => v) t := by
  have es : sh s' = sh s := by funext z; unfold sh; rw [c.2 9 rfl]
  exact H.tk (by rw [es, c.2 3 rfl]; exact hk)
theorem Inv.set {n : Nat} {s t : Mem} {v1 v2 v r : Int32} (h : Inv n s) (hn : n < 512) (hR : R_set s v1 v2 v r t) : Inv (n + 1) t := by
  have n60 := h.2.1.2.1
  rcases hR with ⟨⟨o, f, ho, rfl, hf, rfl⟩, hR⟩ | ⟨_, _, c⟩
  · have f8 := (h.1.1.2.2.1 _ (h.2.1.2.2 o ho).2).2
    rw [cl o (by omega), cl f (by omega)] at hR
    rcases hR with ⟨_, _, c⟩ | ⟨k0, hR⟩
    · exact h.sc c
    rcases hR with ⟨_, _, c⟩ | ⟨_, hR⟩
    · exact h.sc c
    rcases hR with ⟨_, _, c⟩ | ⟨_, hR⟩
    · exact h.sc c
    rcases hR with ⟨_, _, c⟩ | ⟨_, _, s', c, e⟩
    · exact h.sc c
    have k0' : s.2 3 (8 * sh s o + f) = 0 := Classical.not_not.mp k0
    refine h.edit (u := 0) hn c (e.tk' c (Or.inl k0')) ho hf (by rw [k0']; decide) ⟨fun k => ?_, fun k => ?_⟩ (fun b hb q _ => ?_)
    · rw [k0'] at k; exact absurd k (by decide)
    · rw [k0'] at k; exact absurd k (by decide)
    · rw [k0'] at q
      rcases q with ⟨q, _⟩ | ⟨q, _⟩ <;> exact absurd q (by decide)
  · exact h.sc c
theorem Inv.unset {n : Nat} {s t : Mem} {v1 v2 r : Int32} (h : Inv n s) (hn : n < 512) (hR : R_uns s v1 v2 r t) : Inv (n + 1) t := by
  have n60 := h.2.1.2.1
  rcases hR with ⟨⟨o, f, ho, rfl, hf, rfl⟩, hR⟩ | ⟨_, _, c⟩
  · have f8 := (h.1.1.2.2.1 _ (h.2.1.2.2 o ho).2).2
    rw [cl o (by omega), cl f (by omega)] at hR
    rcases hR with ⟨_, _, c⟩ | ⟨k0, hR⟩
    · exact h.sc c
    rcases hR with ⟨_, _, c⟩ | ⟨_, hR⟩
    · exact h.sc c
    rcases hR with ⟨_, _, c⟩ | ⟨_, _, s', c, e⟩
    · exact h.sc c
    have k0' : s.2 3 (8 * sh s o + f) = 0 ∨ s.2 3 (8 * sh s o + f) = 1 := Classical.not_not.mp k0
    refine h.edit (u := 0) hn c (e.tk' c k0') ho hf (by rcases k0' with q | q <;> (rw [q]; decide)) ⟨fun k => Or.inl rfl, fun k => ?_⟩ (fun b hb q _ => ?_)
    · rw [k] at k0'; exact k0'.elim (fun q => absurd q (by decide)) (fun q => absurd q (by decide))
    · rcases q with ⟨_, q⟩ | ⟨q, _⟩
      · exact absurd q.symm (nI_miss (by omega))
      · rw [q] at k0'; exact k0'.elim (fun q => absurd q (by decide)) (fun q => absurd q (by decide))
  · exact h.sc c
theorem no_loop {s : Mem} (ivo : IvO s) (ivv : IvV s) {o x u : Nat} (ho : o < nO s) (hu' : u < nO s) (h : ¬ loopC s o x u) (hw : s.2 7 x &&& 4 = 0) : ¬ RT (Hd s) u o := fun q => h ⟨hw, ((find_iff ivo ivv hu').1 o ho).mpr q⟩
theorem Inv.lead {n : Nat} {s t : Mem} {v1 v2 v r : Int32} (h : Inv n s) (hn : n < 512) (hR : R_lea s v1 v2 v r t) : Inv (n + 1) t := by
  have n60 := h.2.1.2.1
  rcases hR with ⟨⟨⟨o, f, ho, rfl, hf, rfl⟩, u, hu', rfl⟩, hR⟩ | ⟨_, _, c⟩
  · have f8 := (h.1.1.2.2.1 _ (h.2.1.2.2 o ho).2).2
    rw [cl o (by omega), cl f (by omega), cl u (by omega)] at hR
    rcases hR with ⟨_, _, c⟩ | ⟨k0, hR⟩
    · exact h.sc c
    rcases hR with ⟨_, _, c⟩ | ⟨_, hR⟩
    · exact h.sc c
    rcases hR with ⟨_, _, c⟩ | ⟨_, hR⟩
    · exact h.sc c
    rcases hR with ⟨_, _, c⟩ | ⟨hl, _, s', c, e⟩
    · exact h.sc c
    have k0' : s.2 3 (8 * sh s o + f) = 1 := Classical.not_not.mp k0
    have ok := (h.2.2.2.2.2.choose_spec).now h.2.2.2.2.1.1
    refine h.edit (u := u) hn c (e.tk' c (Or.inr k0')) ho hf (by rw [k0']; decide) ⟨fun k => Or.inr ⟨u, hu', rfl⟩, fun k => ?_⟩ (fun b hb q hw => Or.inr ⟨?_, no_loop h.2.1 ok.1 ho hu' hl hw⟩)
    · rw [k0'] at k; exact absurd k (by decide)
    · rcases q with ⟨_, q⟩ | ⟨q, _⟩
      · exact (nI_inj8 (by omega) (by omega) q).symm
      · rw [k0'] at q; exact absurd q (by decide)
  · exact h.sc c
/-- a list's row: what stands in it is held, and of the list's shape -/
theorem row_hd {s : Mem} (ivo : IvO s) (ok : OKV s) {o f : Nat} (ho : o < nO s) (hf : f < nf s (sh s o)) (k2 : s.2 3 (8 * sh s o + f) = 2) : ∃ len, len ≤ 6 ∧ s.2 10 (8 * o + f) = nI len ∧ ∀ i, i < len → ∃ t, t < nO s ∧ s.2 11 (6 * (8 * o + f) + i) = nI t ∧ isOf s (nI (sh s t)) (s.2 4 (8 * sh s o + f)) = true ∧ (s.2 7 (8 * sh s o + f) &&& 4 = 0 → Hd s o t) := by
  obtain ⟨len, l6, el, hp⟩ := (ok.1 o ho f hf).2 k2
  refine ⟨len, l6, el, fun i hi => ?_⟩
  obtain ⟨t, t1, t2⟩ := hp i hi
  refine ⟨t, t1, t2, ok.2.1 o ho f hf k2 i (by rw [el, cl len (by omega)]; exact hi) t t1 t2, fun hw => ⟨ho, t1, f, hf, Or.inr k2, hw, i, ?_, ?_⟩⟩
  · unfold rowN rwN; rw [if_pos k2, el, cl len (by omega)]; exact hi
  · unfold rowF rwF; rw [if_pos k2]; exact t2
/-- an edit of a list that takes what stood there, and perhaps one more -/
theorem Inv.list {n m o f u : Nat} {s s' t : Mem} {F : Nat → Int32} (h : Inv n s) (hn : n < 512) (c : Sc s s') (hT : TkE s' o f m F t) (ho : o < nO s) (hf : f < nf s (sh s o)) (k2 : s.2 3 (8 * sh s o + f) = 2) (m6 : m ≤ 6) (hF : ∀ i, i < m → (∃ j, j < (s.2 10 (8 * o + f)).toNatClampNeg ∧ F i = s.2 11 (6 * (8 * o + f) + j)) ∨ (F i = nI u ∧ u < nO s ∧ isOf s (nI (sh s u)) (s.2 4 (8 * sh s o + f)) = true ∧ (s.2 7 (8 * sh s o + f) &&& 4 = 0 → ¬ RT (Hd s) u o))) : Inv (n + 1) t := by
  have n60 := h.2.1.2.1
  have ok := (h.2.2.2.2.2.choose_spec).now h.2.2.2.2.1.1
  obtain ⟨len, l6, el, hp⟩ := row_hd h.2.1 ok ho hf k2
  refine h.edit (u := u) hn c hT ho hf (by rw [k2]; decide) ⟨fun k => ?_, fun _ => ⟨m6, fun i hi => ?_⟩⟩ (fun b hb q hw => ?_)
  · rw [k2] at k; exact absurd k (by decide)
  · rcases hF i hi with ⟨j, hj, ej⟩ | ⟨q1, q2, q3, _⟩
    · rw [el, cl len (by omega)] at hj
      obtain ⟨x, x1, x2, x3, _⟩ := hp j hj
      exact ⟨x, x1, by rw [ej]; exact x2, x3⟩
    · exact ⟨u, q2, q1, q3⟩
  · rcases q with ⟨q, _⟩ | ⟨_, i, hi, ei⟩
    · rw [k2] at q; exact absurd q (by decide)
    · rcases hF i hi with ⟨j, hj, ej⟩ | ⟨q1, q2, _, q4⟩
      · rw [el, cl len (by omega)] at hj
        obtain ⟨x, x1, x2, _, x4⟩ := hp j hj
        left
        rw [ej, x2] at ei
        rw [← nI_inj8 (by omega) (by omega) ei]
        exact x4 hw
      · right
        rw [q1] at ei
        exact ⟨(nI_inj8 (by omega) (by omega) ei).symm, q4 hw⟩
theorem kSc {s s' : Mem} (c : Sc s s') (o f : Nat) : s'.2 3 (8 * sh s' o + f) = s.2 3 (8 * sh s o + f) ∧ s'.2 10 = s.2 10 ∧ s'.2 11 = s.2 11 := by
  have es : sh s' = sh s := by funext z; unfold sh; rw [c.2 9 rfl]
  exact ⟨by rw [es, c.2 3 rfl], c.2 10 rfl, c.2 11 rfl⟩
theorem Inv.insert {n : Nat} {s t : Mem} {v1 v2 v w r : Int32} (h : Inv n s) (hn : n < 512) (hR : R_ins s v1 v2 v w r t) : Inv (n + 1) t := by
  have n60 := h.2.1.2.1
  rcases hR with ⟨⟨⟨o, f, ho, rfl, hf, rfl⟩, u, hu', rfl⟩, hR⟩ | ⟨_, _, c⟩
  · have f8 := (h.1.1.2.2.1 _ (h.2.1.2.2 o ho).2).2
    rw [cl o (by omega), cl f (by omega), cl u (by omega)] at hR
    rcases hR with ⟨_, _, c⟩ | ⟨k0, hR⟩
    · exact h.sc c
    rcases hR with ⟨_, _, c⟩ | ⟨hrg, hR⟩
    · exact h.sc c
    rcases hR with ⟨_, _, c⟩ | ⟨hof, hR⟩
    · exact h.sc c
    rcases hR with ⟨_, _, c⟩ | ⟨hl, _, s', c, e⟩
    · exact h.sc c
    have k2 : s.2 3 (8 * sh s o + f) = 2 := Classical.not_not.mp k0
    have ok := (h.2.2.2.2.2.choose_spec).now h.2.2.2.2.1.1
    obtain ⟨len, l6, el, _⟩ := row_hd h.2.1 ok ho hf k2
    have eln : lnOf s o f = len := by show (s.2 10 (8 * o + f)).toNatClampNeg = len; rw [el]; exact cl len (by omega)
    rw [eln] at hrg e
    have hv : ∃ i, i ≤ len ∧ v = nI i := Classical.byContradiction fun q => hrg (Or.inr fun i hi ev => q ⟨i, hi, ev⟩)
    obtain ⟨i, hi, rfl⟩ := hv
    rw [cl i (by omega)] at e
    obtain ⟨ks, _, k11⟩ := kSc c o f
    have hT := e.tk (by rw [ks]; exact k2) hi
    rw [k11] at hT
    refine h.list (u := u) hn c hT ho hf k2 (by omega) (fun j hj => ?_)
    rw [el, cl len (by omega)]
    unfold insP
    by_cases z : j < i
    · left; rw [if_pos z]; exact ⟨j, by omega, rfl⟩
    · rw [if_neg z]
      by_cases y : j = i
      · right
        rw [if_pos y]
        exact ⟨rfl, hu', by simpa using hof, fun hw => no_loop h.2.1 ok.1 ho hu' hl hw⟩
      · left; rw [if_neg y]; exact ⟨j - 1, by omega, rfl⟩
  · exact h.sc c
theorem Inv.remove {n : Nat} {s t : Mem} {v1 v2 v r : Int32} (h : Inv n s) (hn : n < 512) (hR : R_rem s v1 v2 v r t) : Inv (n + 1) t := by
  have n60 := h.2.1.2.1
  rcases hR with ⟨⟨o, f, ho, rfl, hf, rfl⟩, hR⟩ | ⟨_, _, c⟩
  · have f8 := (h.1.1.2.2.1 _ (h.2.1.2.2 o ho).2).2
    rw [cl o (by omega), cl f (by omega)] at hR
    rcases hR with ⟨_, _, c⟩ | ⟨k0, hR⟩
    · exact h.sc c
    rcases hR with ⟨_, _, c⟩ | ⟨hrg, _, s', c, e⟩
    · exact h.sc c
    have k2 : s.2 3 (8 * sh s o + f) = 2 := Classical.not_not.mp k0
    have ok := (h.2.2.2.2.2.choose_spec).now h.2.2.2.2.1.1
    obtain ⟨len, l6, el, _⟩ := row_hd h.2.1 ok ho hf k2
    have eln : lnOf s o f = len := by show (s.2 10 (8 * o + f)).toNatClampNeg = len; rw [el]; exact cl len (by omega)
    rw [eln] at hrg e
    have hv : ∃ i, i < len ∧ v = nI i := Classical.byContradiction fun q => hrg fun i hi ev => q ⟨i, hi, ev⟩
    obtain ⟨i, hi, rfl⟩ := hv
    rw [cl i (by omega)] at e
    obtain ⟨ks, _, k11⟩ := kSc c o f
    have hT := e.tk (by rw [ks]; exact k2) hi
    rw [k11] at hT
    refine h.list (u := 0) hn c hT ho hf k2 (by omega) (fun j hj => ?_)
    rw [el, cl len (by omega)]
    unfold remP
    left
    by_cases z : j < i
    · rw [if_pos z]; exact ⟨j, by omega, rfl⟩
    · rw [if_neg z]; exact ⟨j + 1, by omega, rfl⟩
  · exact h.sc c
theorem insF_all {Q : Int32 → Prop} {n : Nat} (fl W O : Int32) (hO : Q O) : ∀ (k : Nat) (w p : Nat → Int32), k < n → (∀ j, j < n → Q (p j)) → ∀ j, j < n → Q ((insF fl W O k w p).2 j)
  | 0, w, p, hk, hp, j, hj => by
    rw [insF]
    dsimp only
    by_cases z : j = 0
    · subst z; rw [pk_us]; exact hO
    · rw [pk_un z]; exact hp j hj
  | k + 1, w, p, hk, hp, j, hj => by
    rw [insF]
    by_cases q : ahd W (w k) fl
    · rw [if_pos q]
      refine insF_all fl W O hO k _ _ (by omega) (fun i hi => ?_) j hj
      by_cases z : i = k + 1
      · subst z; rw [pk_us]; exact hp k (by omega)
      · rw [pk_un z]; exact hp i hi
    · rw [if_neg q]
      dsimp only
      by_cases z : j = k + 1
      · subst z; rw [pk_us]; exact hO
      · rw [pk_un z]; exact hp j hj
theorem srtF_all {Q : Int32 → Prop} {n : Nat} (fl : Int32) {w p : Nat → Int32} (hp : ∀ j, j < n → Q (p j)) : ∀ i, i ≤ n → ∀ j, j < n → Q ((srtF fl w p i).2 j)
  | 0, _ => hp
  | i + 1, hi => by
    have ih := srtF_all fl (w := w) hp i (by omega)
    rw [srtF]
    exact insF_all fl _ _ (ih i (by omega)) i _ _ (by omega) ih
theorem Inv.sort {n : Nat} {s t : Mem} {v1 v2 v fl r : Int32} (h : Inv n s) (hn : n < 512) (hR : R_srt s v1 v2 v fl r t) : Inv (n + 1) t := by
  have n60 := h.2.1.2.1
  rcases hR with ⟨⟨o, f, ho, rfl, hf, rfl⟩, hR⟩ | ⟨_, _, c⟩
  · have f8 := (h.1.1.2.2.1 _ (h.2.1.2.2 o ho).2).2
    rw [cl o (by omega), cl f (by omega)] at hR
    rcases hR with ⟨_, _, c⟩ | ⟨k0, hR⟩
    · exact h.sc c
    rcases hR with ⟨_, _, c⟩ | ⟨hrg, _, s', c, e⟩
    · exact h.sc c
    have k2 : s.2 3 (8 * sh s o + f) = 2 := Classical.not_not.mp k0
    have ok := (h.2.2.2.2.2.choose_spec).now h.2.2.2.2.1.1
    obtain ⟨len, l6, el, _⟩ := row_hd h.2.1 ok ho hf k2
    have eln : lnOf s o f = len := by show (s.2 10 (8 * o + f)).toNatClampNeg = len; rw [el]; exact cl len (by omega)
    rw [eln] at e
    obtain ⟨ks, k10, k11⟩ := kSc c o f
    have hT := e.tk (w := fun k => wgt s' (s'.2 11 (6 * (8 * o + f) + k)).toNatClampNeg v.toNatClampNeg) (by rw [ks]; exact k2) l6 (by rw [k10]; exact el) (fun k _ => rfl)
    rw [k11] at hT
    refine h.list (u := 0) hn c hT ho hf k2 l6 (fun j hj => Or.inl ?_)
    rw [el, cl len (by omega)]
    exact srtF_all (Q := fun z => ∃ j, j < len ∧ z = s.2 11 (6 * (8 * o + f) + j)) (n := len) fl (fun j hj => ⟨j, hj, rfl⟩) len (Nat.le_refl _) j hj
  · exact h.sc c
