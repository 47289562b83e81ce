/-! the invariant kept: commit, abort, undo, redo -/
theorem Inv.hist {n : Nat} {s t : Mem} (h : Inv n s) (f0 : t.1 0 = s.1 0) (f8 : t.1 8 = s.1 8) (f33 : t.1 33 = s.1 33) (gq : ∀ q, q ≠ 10 → q ≠ 11 → q ≠ 30 → q ≠ 31 → q < 17 ∨ 22 < q → t.2 q = s.2 q) (iw : IvW t) (hi : IHi (n + 1) t) (hc : ∃ S, Ch t S) : Inv (n + 1) t := by
  obtain ⟨h1, h2, h3, h4, h5, h6⟩ := h
  exact ⟨h1.of f0 (fun q q1 q2 => gq q (by omega) (by omega) (by omega) (by omega) (by omega)), h2.of f0 f8 (gq 9 (by omega) (by omega) (by omega) (by omega) (by omega)), iw, h4.of f33 (gq 34 (by omega) (by omega) (by omega) (by omega) (by omega)) (gq 35 (by omega) (by omega) (by omega) (by omega) (by omega)) (gq 36 (by omega) (by omega) (by omega) (by omega) (by omega)) f0, hi, hc⟩
/-- a group that is over with nothing in it -/
theorem Inv.shut {n : Nat} {s : Mem} (h : Inv n s) (hg : s.1 23 ≠ 0) (h0 : gsz s = 0) : Inv (n + 1) (mF s 23 0) := by
  have h' := h
  obtain ⟨h1, h2, h3, h4, ⟨ivh, ivg, ivx, hn⟩, S, hc1, hc2, hc3⟩ := h'
  have a : ∀ q, q ≠ 23 → (mF s 23 0).1 q = s.1 q := fun q hq => mF_1n _ _ hq
  have a23 : (mF s 23 0).1 23 = 0 := mF_1s _ _ _
  have eE : nE (mF s 23 0) = nE s := by unfold nE; rw [a 16 (by omega)]
  have eEn : nEn (mF s 23 0) = nEn s := by unfold nEn; rw [a 20 (by omega)]
  have eD : nD (mF s 23 0) = nD s := by unfold nD; rw [a 21 (by omega)]
  have een : en (mF s 23 0) = en s := rfl
  have eB : enB (mF s 23 0) = enB s := rfl
  have egF : gF (mF s 23 0) = gF s := by unfold gF; rw [a 24 (by omega)]
  have eE' : nE' (mF s 23 0) = nE' s := by unfold nE' dEnd; rw [eD, eEn, eE, een]
  refine h.hist (a 0 (by omega)) (a 8 (by omega)) (a 33 (by omega)) (fun q _ _ _ _ _ => rfl) (h3.of (a 0 (by omega)) (a 25 (by omega)) rfl rfl rfl) ⟨?_, ?_, ⟨fun _ => ?_, fun q => absurd a23 q⟩, by omega⟩ ⟨S, fun e he => ?_, ?_, fun k hk => ?_⟩
  · obtain ⟨i1, i2, i3, i4, i5, i6, i7, i8, i9⟩ := ivh
    unfold IvH
    rw [eE, eEn, eD, een, a 16 (by omega), a 20 (by omega), a 21 (by omega), a23]
    exact ⟨i1, i2, i3, i4, i5, Or.inl rfl, i7, i8, i9⟩
  · unfold IvG
    rw [egF, a 24 (by omega)]
    exact ivg
  · rw [eE, eB, eEn]
    obtain ⟨q1, q2, q3⟩ := ivx.2 hg
    by_cases z : nD s < nEn s
    · exact q2 z
    · have hD : nEn s = nD s := by have := ivh.2.2.2.1; omega
      unfold gsz at h0
      by_cases w : gF s < nE s
      · rw [if_pos ⟨w, hD⟩] at h0; omega
      · rw [hD, ← q1]; omega
  · exact (hc1 e (by omega)).of (ObE.of (a 8 (by omega)) rfl rfl rfl) rfl (fun _ _ => ⟨rfl, rfl⟩)
  · rw [eE', hc2]; rfl
  · exact (hc3 k (by omega)).of ⟨a 8 (by omega), rfl, rfl, rfl, rfl, rfl, rfl⟩
theorem Inv.commit {n : Nat} {s t : Mem} {r : Int32} (h : Inv n s) (hR : R_com s r t) : Inv (n + 1) t := by
  rcases hR with ⟨_, _, c⟩ | ⟨hg, _, hR⟩
  · exact h.sc c
  rcases hR with ⟨h0, e⟩ | ⟨h0, e⟩
  · subst e; exact h.shut hg h0
  have h' := h
  obtain ⟨h1, h2, h3, h4, ⟨ivh, ivg, ivx, hn⟩, S, hc1, hc2, hc3⟩ := h'
  have a : ∀ q, q ≠ 23 → (mF s 23 0).1 q = s.1 q := fun q hq => mF_1n _ _ hq
  have a23 : (mF s 23 0).1 23 = 0 := mF_1s _ _ _
  have hgs : gF s < nE s ∧ nEn s = nD s := Classical.byContradiction fun q => h0 (by unfold gsz; exact if_neg q)
  have eE : nE (mF s 23 0) = nE s := by unfold nE; rw [a 16 (by omega)]
  have eEn : nEn (mF s 23 0) = nEn s := by unfold nEn; rw [a 20 (by omega)]
  have eD : nD (mF s 23 0) = nD s := by unfold nD; rw [a 21 (by omega)]
  have een : en (mF s 23 0) = en s := rfl
  have eE' : nE' s = nE s := by unfold nE'; rw [if_neg (by omega)]
  have ivhu : IvH (mF s 23 0) := by
    obtain ⟨i1, i2, i3, i4, i5, i6, i7, i8, i9⟩ := ivh
    unfold IvH
    rw [eE, eEn, eD, een, a 16 (by omega), a 20 (by omega), a 21 (by omega), a23]
    exact ⟨i1, i2, i3, i4, i5, Or.inl rfl, i7, i8, i9⟩
  have hce : ChE (mF s 23 0) S := by
    refine ⟨fun e he => ?_, ?_, fun k hk => ?_⟩
    · exact (hc1 e (by omega)).of (ObE.of (a 8 (by omega)) rfl rfl rfl) rfl (fun _ _ => ⟨rfl, rfl⟩)
    · rw [eE, ← eE', hc2]; rfl
    · exact (hc3 k (by omega)).of ⟨a 8 (by omega), rfl, rfl, rfl, rfl, rfl, rfl⟩
  obtain ⟨r1, r2, r3, r4⟩ := EntE.inv ivhu a23 hce e
  obtain ⟨_, _, _, _, _, _, eF, eA, _, _⟩ := e
  refine h.hist ((eF 0 (by omega) (by omega) (by omega)).trans (a 0 (by omega))) ((eF 8 (by omega) (by omega) (by omega)).trans (a 8 (by omega))) ((eF 33 (by omega) (by omega) (by omega)).trans (a 33 (by omega))) (fun q _ _ _ _ hq => eA q (by omega) (by omega) (by omega) (by omega)) (h3.of ((eF 0 (by omega) (by omega) (by omega)).trans (a 0 (by omega))) ((eF 25 (by omega) (by omega) (by omega)).trans (a 25 (by omega))) (eA 26 (by omega) (by omega) (by omega) (by omega)) (eA 27 (by omega) (by omega) (by omega) (by omega)) (eA 30 (by omega) (by omega) (by omega) (by omega))) ⟨r1, ?_, r2, by omega⟩ r4
  have e24 : t.1 24 = s.1 24 := (eF 24 (by omega) (by omega) (by omega)).trans (a 24 (by omega))
  unfold IvG gF at *
  rw [e24]
  exact ivg
def Bd (s : Mem) : Prop := ∀ o f, o < nO s → f < nf s (sh s o) → 8 * o + f < 1000
theorem Bd.mk {s : Mem} (ivs : IvS s) (ivo : IvO s) : Bd s := fun o f ho hf => by
  have n60 := ivo.2.1
  have f8 := (ivs.2.2.1 _ (ivo.2.2 o ho).2).2
  omega
/-- an edit taken back, or done again, goes along the chain -/
theorem GoE.run {s t : Mem} {j e : Nat} {x y : VP} (hb : Bd s) (H : GoE s j e t) (hs : StpE s e x y) : (j = 18 → cur s = y → cur t = x) ∧ (j = 19 → cur s = x → cur t = y) := by
  obtain ⟨o, f, t1, ho, hf, e17, ⟨p1, p2, p3, p4, p5⟩, hN⟩ := H
  obtain ⟨o', f', ho', hf', _, e17', a1, a2, a3, a4, a5⟩ := hs
  obtain ⟨_, nq2⟩ := hN.co
  have b1 := hb o f ho hf
  have b2 := hb o' f' ho' hf'
  have ex : 8 * o + f = 8 * o' + f' := nI_inj8 (by omega) (by omega) (e17.symm.trans e17')
  rw [← ex] at a1 a2 a3 a4 a5
  have c10 : t.2 10 = upd (s.2 10) (8 * o + f) (s.2 j (7 * e)) := by rw [nq2 10 (by omega) (by omega), p3]
  have c11 : t.2 11 = t1.2 11 := nq2 11 (by omega) (by omega)
  refine ⟨fun ej hc => ?_, fun ej hc => ?_⟩
  · subst ej
    have h10 : s.2 10 = y.1 := congrArg Prod.fst hc
    have h11 : s.2 11 = y.2 := congrArg Prod.snd hc
    refine Prod.ext (funext fun z => ?_) (funext fun z => ?_)
    · show t.2 10 z = x.1 z
      rw [c10]
      by_cases w : z = 8 * o + f
      · subst w; rw [pk_us]; exact a3.symm
      · rw [pk_un w, h10]; exact a1 z w
    · show t.2 11 z = x.2 z
      rw [c11]
      by_cases w : z < 6 * (8 * o + f) ∨ 6 * (8 * o + f) + 6 ≤ z
      · rw [p4 z w, h11]; exact a2 z w
      · obtain ⟨k, hk, rfl⟩ : ∃ k, k < 6 ∧ z = 6 * (8 * o + f) + k := ⟨z - 6 * (8 * o + f), by omega, by omega⟩
        rw [p5 k hk]
        exact (a5 k hk).1.symm
  · subst ej
    have h10 : s.2 10 = x.1 := congrArg Prod.fst hc
    have h11 : s.2 11 = x.2 := congrArg Prod.snd hc
    refine Prod.ext (funext fun z => ?_) (funext fun z => ?_)
    · show t.2 10 z = y.1 z
      rw [c10]
      by_cases w : z = 8 * o + f
      · subst w; rw [pk_us]; exact a4.symm
      · rw [pk_un w, h10]; exact (a1 z w).symm
    · show t.2 11 z = y.2 z
      rw [c11]
      by_cases w : z < 6 * (8 * o + f) ∨ 6 * (8 * o + f) + 6 ≤ z
      · rw [p4 z w, h11]; exact (a2 z w).symm
      · obtain ⟨k, hk, rfl⟩ : ∃ k, k < 6 ∧ z = 6 * (8 * o + f) + k := ⟨z - 6 * (8 * o + f), by omega, by omega⟩
        rw [p5 k hk]
        exact (a5 k hk).2.symm
theorem SaM.bd {s t : Mem} (h : SaM s t) (hb : Bd s) : Bd t := by
  have e8 : nO t = nO s := by unfold nO; rw [h.1 8 (by omega)]
  have e2 : nf t = nf s := by funext i; unfold nf; rw [h.2 2 (by omega) (by omega) (by omega) (by omega)]
  have e9 : sh t = sh s := by funext i; unfold sh; rw [h.2 9 (by omega) (by omega) (by omega) (by omega)]
  unfold Bd
  rw [e8, e2, e9]
  exact hb
theorem SaM.stp {s t : Mem} (h : SaM s t) {e : Nat} {x y : VP} (hs : StpE s e x y) : StpE t e x y := hs.of h.ob (by rw [h.2 17 (by omega) (by omega) (by omega) (by omega)]) (fun k _ => ⟨by rw [h.2 18 (by omega) (by omega) (by omega) (by omega)], by rw [h.2 19 (by omega) (by omega) (by omega) (by omega)]⟩)
theorem GoE.sam {s t : Mem} {j e : Nat} (H : GoE s j e t) : SaM s t := ⟨fun q _ => by rw [H.same.1], H.same.2⟩
theorem sam16 (b : Bool) (s : Mem) (v : Int32) : SaM s (if b then mF s 16 v else s) := by
  cases b
  · exact ⟨fun _ _ => rfl, fun _ _ _ _ _ => rfl⟩
  · exact ⟨fun q hq => mF_1n _ _ hq, fun _ _ _ _ _ => rfl⟩
theorem SaM.tr {s t u : Mem} (a : SaM s t) (b : SaM t u) : SaM s u := ⟨fun q hq => (b.1 q hq).trans (a.1 q hq), fun q h1 h2 h3 h4 => (b.2 q h1 h2 h3 h4).trans (a.2 q h1 h2 h3 h4)⟩
theorem cur16 (b : Bool) (s : Mem) (v : Int32) : cur (if b then mF s 16 v else s) = cur s := by cases b <;> rfl
theorem IvW.f16 {s : Mem} (b : Bool) (v : Int32) (h : IvW s) : IvW (if b then mF s 16 v else s) := by
  cases b
  · exact h
  · exact h.of (mF_1n _ _ (by omega)) (mF_1n _ _ (by omega)) rfl rfl rfl
theorem GoCh.run {b : Bool} {S : Nat → VP} : ∀ (n k : Nat) (s t : Mem), GoCh b n k s t → n ≤ k → Bd s → (∀ e, e < k → StpE s e (S e) (S (e + 1))) → cur s = S k → IvW s → cur t = S (k - n) ∧ IvW t ∧ (b = true → 0 < n → t.1 16 = nI (k - n)) ∧ (b = false → t.1 16 = s.1 16)
  | 0, k, s, t, h, _, _, _, hc, hw => by
    have e : t = s := h
    subst e
    exact ⟨by rw [Nat.sub_zero]; exact hc, hw, fun _ q => absurd q (by omega), fun _ => rfl⟩
  | n + 1, k, s, t, ⟨t1, h1, h2⟩, hk, hb, hs, hc, hw => by
    have s1 := sam16 b s (nI (k - 1))
    have s2 := h1.sam
    have st := s1.stp (hs (k - 1) (by omega))
    rw [show k - 1 + 1 = k by omega] at st
    have hc1 : cur t1 = S (k - 1) := (h1.run (s1.bd hb) st).1 rfl (by rw [cur16]; exact hc)
    obtain ⟨r1, r2, r3, r4⟩ := GoCh.run n (k - 1) t1 t h2 (by omega) ((s1.tr s2).bd hb) (fun e he => (s1.tr s2).stp (hs e (by omega))) hc1 (h1.ivw (hw.f16 b _))
    refine ⟨by rw [r1, show k - 1 - n = k - (n + 1) by omega], r2, fun hb' _ => ?_, fun hb' => ?_⟩
    · by_cases z : n = 0
      · subst z
        have e : t = t1 := h2
        rw [e, h1.same.1, if_pos hb', mF_1s]
      · rw [r3 hb' (by omega), show k - 1 - n = k - (n + 1) by omega]
    · rw [r4 hb', h1.same.1, if_neg (by rw [hb']; decide)]
theorem ReE.run {S : Nat → VP} : ∀ (n k : Nat) (s t : Mem), ReE n k s t → Bd s → (∀ e, e < k + n → StpE s e (S e) (S (e + 1))) → cur s = S k → IvW s → cur t = S (k + n) ∧ IvW t
  | 0, k, s, t, h, _, _, hc, hw => by
    have e : t = s := h
    subst e
    exact ⟨hc, hw⟩
  | n + 1, k, s, t, ⟨t1, h1, h2⟩, hb, hs, hc, hw => by
    have s2 := h1.sam
    have hc1 : cur t1 = S (k + 1) := (h1.run hb (hs k (by omega))).2 rfl hc
    obtain ⟨r1, r2⟩ := ReE.run n (k + 1) t1 t h2 (s2.bd hb) (fun e he => s2.stp (hs e (by omega))) hc1 (h1.ivw hw)
    exact ⟨by rw [r1, show k + 1 + n = k + (n + 1) by omega], r2⟩
theorem Inv.abort {n : Nat} {s t : Mem} {r : Int32} (h : Inv n s) (hR : R_abt s r t) : Inv (n + 1) t := by
  rcases hR with ⟨_, _, c⟩ | ⟨hg, _, hR⟩
  · exact h.sc c
  by_cases h0 : gsz s = 0
  · rw [h0] at hR
    have e : t = mF s 23 0 := hR
    subst e
    exact h.shut hg h0
  have h' := h
  obtain ⟨h1, h2, h3, h4, ⟨ivh, ivg, ivx, hn⟩, S, hc1, hc2, hc3⟩ := h'
  have hgs : gF s < nE s ∧ nEn s = nD s := Classical.byContradiction fun q => h0 (by unfold gsz; exact if_neg q)
  have egs : gsz s = nE s - gF s := by unfold gsz; exact if_pos hgs
  rw [egs] at hR
  have hch := hR.ch
  have hsam := GoCh.same _ _ _ _ hch
  have eE' : nE' s = nE s := by unfold nE'; rw [if_neg (by omega)]
  have a : ∀ q, q ≠ 23 → (mF s 23 0).1 q = s.1 q := fun q hq => mF_1n _ _ hq
  have sam0 : ∀ q, q ≠ 16 → q ≠ 23 → t.1 q = s.1 q := fun q q1 q2 => (hsam.1 q q1).trans (a q q2)
  have samA : ∀ q, q ≠ 10 → q ≠ 11 → q ≠ 30 → q ≠ 31 → t.2 q = s.2 q := fun q q1 q2 q3 q4 => hsam.2 q q1 q2 q3 q4
  obtain ⟨r1, r2, r3, _⟩ := GoCh.run (S := S) _ _ _ _ hch (by omega) (Bd.mk (h1.1.of (a 0 (by omega)) rfl rfl) (h2.of (a 0 (by omega)) (a 8 (by omega)) rfl)) (fun e he => (hc1 e he).of (ObE.of (a 8 (by omega)) rfl rfl rfl) rfl (fun _ _ => ⟨rfl, rfl⟩)) (by rw [← eE', hc2]; rfl) (h3.of (a 0 (by omega)) (a 25 (by omega)) rfl rfl rfl)
  have e16 := r3 rfl (by omega)
  rw [show nE s - (nE s - gF s) = gF s by omega] at r1 e16
  have h690 := ivh.2.2.2.2.2.2.1
  have eE : nE t = gF s := by unfold nE; rw [e16]; exact cl _ (by omega)
  have eEn : nEn t = nEn s := by unfold nEn; rw [sam0 20 (by omega) (by omega)]
  have eD : nD t = nD s := by unfold nD; rw [sam0 21 (by omega) (by omega)]
  have g22 := samA 22 (by omega) (by omega) (by omega) (by omega)
  have een : en t = en s := by funext k; unfold en; rw [g22]
  have eB : enB t = enB s := by funext k; unfold enB; rw [een]
  have e23 : t.1 23 = 0 := (hsam.1 23 (by omega)).trans (mF_1s _ _ _)
  have hgF : gF s = enB s (nD s) := (ivx.2 hg).1
  refine h.hist (sam0 0 (by omega) (by omega)) (sam0 8 (by omega) (by omega)) (sam0 33 (by omega) (by omega)) (fun q q1 q2 q3 q4 _ => samA q q1 q2 q3 q4) r2 ⟨⟨by rw [e16, eE], by rw [eEn, sam0 20 (by omega) (by omega)]; exact ivh.2.1, by rw [eD, sam0 21 (by omega) (by omega)]; exact ivh.2.2.1, by omega, by rw [eEn]; exact ivh.2.2.2.2.1, Or.inl e23, by omega, fun k hk => ?_, fun k hk => ?_⟩, ?_, ⟨fun _ => ?_, fun q => absurd e23 q⟩, by omega⟩ ⟨S, fun e he => ?_, ?_, fun k hk => ?_⟩
  · rw [eEn] at hk
    rw [g22, een, eE, hgF]
    refine ⟨(ivh.2.2.2.2.2.2.2.1 k hk).1, ?_⟩
    have := enc_le ivh hk (Nat.le_refl _)
    rw [hgs.2] at this
    exact this
  · rw [eEn] at hk
    rw [een]
    exact ivh.2.2.2.2.2.2.2.2 k hk
  · have e24 := sam0 24 (by omega) (by omega)
    unfold IvG gF at *
    rw [e24]
    exact ivg
  · rw [eE, eB, eEn, hgs.2]
    exact hgF
  · have he2 : e < gF s := by omega
    exact (hc1 e (by omega)).of (ObE.of (sam0 8 (by omega) (by omega)) (samA 2 (by omega) (by omega) (by omega) (by omega)) (samA 3 (by omega) (by omega) (by omega) (by omega)) (samA 9 (by omega) (by omega) (by omega) (by omega))) (by rw [samA 17 (by omega) (by omega) (by omega) (by omega)]) (fun k _ => ⟨by rw [samA 18 (by omega) (by omega) (by omega) (by omega)], by rw [samA 19 (by omega) (by omega) (by omega) (by omega)]⟩)
  · have : nE' t = nE t := by unfold nE'; rw [if_neg (by omega)]
    rw [this, eE]
    exact r1.symm
  · exact (hc3 k (by omega)).of ⟨sam0 8 (by omega) (by omega), samA 1 (by omega) (by omega) (by omega) (by omega), samA 2 (by omega) (by omega) (by omega) (by omega), samA 3 (by omega) (by omega) (by omega) (by omega), samA 4 (by omega) (by omega) (by omega) (by omega), samA 7 (by omega) (by omega) (by omega) (by omega), samA 9 (by omega) (by omega) (by omega) (by omega)⟩
/-- behind undo and redo: another number of done entries -/
theorem Inv.move {n d : Nat} {s u : Mem} (h : Inv n s) (hg : s.1 23 = 0) (hd : d ≤ nEn s) (f1 : u.1 = s.1) (hsam : SaM s u) (iw : IvW u) (hc : ∀ S, Ch s S → cur u = S (enB s d)) : Inv (n + 1) (mF u 21 (nI d)) := by
  have h' := h
  obtain ⟨h1, h2, h3, h4, ⟨ivh, ivg, ivx, hn⟩, S, hch⟩ := h'
  have hcu := hc S hch
  obtain ⟨hc1, hc2, hc3⟩ := hch
  have h60 := ivh.2.2.2.2.1
  have a : ∀ q, q ≠ 21 → (mF u 21 (nI d)).1 q = s.1 q := fun q hq => by rw [mF_1n _ _ hq, f1]
  have a21 : (mF u 21 (nI d)).1 21 = nI d := mF_1s _ _ _
  have b : ∀ q, q ≠ 10 → q ≠ 11 → q ≠ 30 → q ≠ 31 → (mF u 21 (nI d)).2 q = s.2 q := fun q q1 q2 q3 q4 => hsam.2 q q1 q2 q3 q4
  have b10 : cur (mF u 21 (nI d)) = cur u := rfl
  have iwt : IvW (mF u 21 (nI d)) := iw.of (mF_1n _ _ (by omega)) (mF_1n _ _ (by omega)) rfl rfl rfl
  generalize mF u 21 (nI d) = t at *
  have eE : nE t = nE s := by unfold nE; rw [a 16 (by omega)]
  have eEn : nEn t = nEn s := by unfold nEn; rw [a 20 (by omega)]
  have eD : nD t = d := by unfold nD; rw [a21]; exact cl _ (by omega)
  have g22 := b 22 (by omega) (by omega) (by omega) (by omega)
  have een : en t = en s := by funext k; unfold en; rw [g22]
  have eB : enB t = enB s := by funext k; unfold enB; rw [een]
  have e23 : t.1 23 = 0 := by rw [a 23 (by omega)]; exact hg
  refine h.hist (a 0 (by omega)) (a 8 (by omega)) (a 33 (by omega)) (fun q q1 q2 q3 q4 _ => b q q1 q2 q3 q4) iwt ⟨⟨by rw [eE, a 16 (by omega)]; exact ivh.1, by rw [eEn, a 20 (by omega)]; exact ivh.2.1, by rw [eD, a21], by omega, by omega, Or.inl e23, by rw [eE]; exact ivh.2.2.2.2.2.2.1, fun k hk => ?_, fun k hk => ?_⟩, ?_, ⟨fun _ => ?_, fun q => absurd e23 q⟩, by omega⟩ ⟨S, fun e he => ?_, ?_, fun k hk => ?_⟩
  · rw [eEn] at hk
    rw [g22, een, eE]
    exact ivh.2.2.2.2.2.2.2.1 k hk
  · rw [eEn] at hk
    rw [een]
    exact ivh.2.2.2.2.2.2.2.2 k hk
  · have e24 := a 24 (by omega)
    unfold IvG gF at *
    rw [e24]
    exact ivg
  · rw [eE, eB, eEn]
    exact ivx.1 hg
  · exact (hc1 e (by omega)).of (ObE.of (a 8 (by omega)) (b 2 (by omega) (by omega) (by omega) (by omega)) (b 3 (by omega) (by omega) (by omega) (by omega)) (b 9 (by omega) (by omega) (by omega) (by omega))) (by rw [b 17 (by omega) (by omega) (by omega) (by omega)]) (fun k _ => ⟨by rw [b 18 (by omega) (by omega) (by omega) (by omega)], by rw [b 19 (by omega) (by omega) (by omega) (by omega)]⟩)
  · have : nE' t = enB s d := by
      unfold nE'
      by_cases z : nD t < nEn t
      · rw [if_pos z, dEnd_B, eB, eD]
      · rw [if_neg z, eE, ivx.1 hg, show nEn s = d by omega]
    rw [this, b10]
    exact hcu.symm
  · exact (hc3 k (by omega)).of ⟨a 8 (by omega), b 1 (by omega) (by omega) (by omega) (by omega), b 2 (by omega) (by omega) (by omega) (by omega), b 3 (by omega) (by omega) (by omega) (by omega), b 4 (by omega) (by omega) (by omega) (by omega), b 7 (by omega) (by omega) (by omega) (by omega), b 9 (by omega) (by omega) (by omega) (by omega)⟩
theorem Inv.undo {n : Nat} {s t : Mem} {r : Int32} (h : Inv n s) (hR : R_und s r t) : Inv (n + 1) t := by
  rcases hR with ⟨_, _, c⟩ | ⟨hg, _, u, hU, e⟩
  · exact h.sc c
  have g0 : s.1 23 = 0 := Classical.not_not.mp (fun q => hg (Or.inl q))
  have gD : nD s ≠ 0 := fun q => hg (Or.inr q)
  obtain ⟨h1, h2, h3, h4, ⟨ivh, ivg, ivx, hn⟩, S0, hch0⟩ := id h
  have hde := ivh.2.2.2.1
  have hch := hU.ch
  have hsam := GoCh.same _ _ _ _ hch
  have hle := enB_le ivh (k := nD s - 1) (by omega)
  have heq : en s (nD s - 1) = enB s (nD s) := by unfold enB; rw [if_neg gD]
  have hE' := nE'_no ivh ivx g0
  have hEl := nE'_le ivh
  subst e
  have run : ∀ S, Ch s S → cur u = S (enB s (nD s - 1)) ∧ IvW u ∧ u.1 16 = s.1 16 := fun S hc => by
    obtain ⟨r1, r2, _, r4⟩ := GoCh.run (S := S) _ _ _ _ hch (by omega) (Bd.mk h1.1 h2) (fun e he => hc.1 e (by omega)) (by rw [heq, ← hE']; exact hc.2.1.symm) h3
    refine ⟨?_, r2, r4 rfl⟩
    rw [r1]
    congr 1
    omega
  refine h.move g0 (by omega) ?_ hsam (run S0 hch0).2.1 (fun S hc => (run S hc).1)
  funext q
  by_cases z : q = 16
  · subst z; exact (run S0 hch0).2.2
  · exact hsam.1 q z
theorem Inv.redo {n : Nat} {s t : Mem} {r : Int32} (h : Inv n s) (hR : R_red s r t) : Inv (n + 1) t := by
  rcases hR with ⟨_, _, c⟩ | ⟨hg, _, u, hU, e⟩
  · exact h.sc c
  have g0 : s.1 23 = 0 := Classical.not_not.mp (fun q => hg (Or.inl q))
  have gD : nD s ≠ nEn s := fun q => hg (Or.inr q)
  obtain ⟨h1, h2, h3, h4, ⟨ivh, ivg, ivx, hn⟩, S0, hch0⟩ := id h
  have hde := ivh.2.2.2.1
  obtain ⟨hf1, hsam⟩ := ReE.same _ _ _ _ hU
  have hle := enB_le ivh (k := nD s) (by omega)
  have heq : en s (nD s) = enB s (nD s + 1) := by unfold enB; rw [if_neg (by omega)]; rfl
  have hE' := nE'_no ivh ivx g0
  have hEl := (ivh.2.2.2.2.2.2.2.1 (nD s) (by omega)).2
  subst e
  have run : ∀ S, Ch s S → cur u = S (enB s (nD s + 1)) ∧ IvW u := fun S hc => by
    obtain ⟨r1, r2⟩ := ReE.run (S := S) _ _ _ _ hU (Bd.mk h1.1 h2) (fun e he => hc.1 e (by omega)) (by rw [← hE']; exact hc.2.1.symm) h3
    refine ⟨?_, r2⟩
    rw [r1]
    congr 1
    omega
  exact h.move g0 (by omega) hf1 hsam (run S0 hch0).2 (fun S hc => (run S hc).1)
