/-! what the class does, held against the same relations -/
theorem cs.det {p : Prop} {a b r r' : Int32} (h : cs p (r = a) (r = b)) (k : cs p (r' = a) (r' = b)) : r = r' := by
  rcases h with ⟨h1, h2⟩ | ⟨h1, h2⟩
  · rw [h2, k.t h1]
  · rw [h2, k.f h1]
theorem Sc.ob {s t : Mem} (c : Sc s t) : ObE s t := ObE.of (c.1 8 rfl) (c.2 2 rfl) (c.2 3 rfl) (c.2 9 rfl)
theorem Sc.hi {s t : Mem} (c : Sc s t) : HiE s t := ⟨fun q hq => c.1 q (by rcases hq with e | e | e | e | e <;> subst e <;> rfl), fun q hq => c.2 q (by rcases hq with e | e | e | e <;> subst e <;> rfl)⟩
theorem Nx.nc {G : Gk} {g : Gm} {h h' : Hp} {s t : Mem} (R : RC G g h s) (N : Nx g h h' t) (hO : ObE s t) (hH : HiE s t) : Nc G g h h' t := by
  obtain ⟨g', h1, h2, h3⟩ := N
  exact ⟨g', ⟨h1, R.2.mv h2 (fun r hr => hr) hO hH⟩, h2.mo (fun r hr => Or.inl (by omega)), h3⟩
theorem addM.ob {s : Mem} {i : Nat} {k a b y fl : Int32} (ivs : IvS s) (ivo : IvO s) (hi : i < nS s) (ha : agst s i = 0) : ObE s (addM s i k a b y fl) ∧ HiE s (addM s i k a b y fl) := by
  have n8i := (ivs.2.2.1 i hi).2
  have ne8 : nf s i ≠ 8 := by
    intro e
    have h2 : s.2 2 i = 8 := by rw [(ivs.2.2.1 i hi).1, e]; rfl
    unfold agst at ha
    rw [if_pos h2] at ha
    split at ha
    · exact absurd ha (by decide)
    · exact absurd ha (by decide)
  refine ⟨fun o ho => ⟨ho, by unfold sh; rw [addM_n _ _ _ _ _ _ _ (by omega)], fun f hf => ?_⟩, fun q _ => rfl, fun q hq => addM_n _ _ _ _ _ _ _ (by omega)⟩
  have n8 := (ivs.2.2.1 _ (ivo.2.2 o ho).2).2
  refine ⟨?_, addM_x _ _ _ _ _ _ _ (by omega) (fun z => ?_)⟩
  · by_cases z : sh s o = i
    · rw [z] at hf ⊢
      rw [addM_nf _ _ _ _ _ _ _ n8i]
      omega
    · rw [addM_nfn _ _ _ _ _ _ _ z]
      exact hf
  · have e : sh s o = i := by omega
    rw [e] at hf z
    omega
theorem AdR.ob {s t : Mem} {i : Nat} {k a b y fl r : Int32} (ivs : IvS s) (ivo : IvO s) (hi : i < nS s) (h : AdR s i k a b y fl r t) : ObE s t ∧ HiE s t := by
  rcases h with ⟨h1, h2, h3⟩ | ⟨h1, h2, h3⟩
  · rw [h3]; exact addM.ob ivs ivo hi h1
  · exact ⟨h3.ob, h3.hi⟩
theorem shpE.ob {s t : Mem} {v : Int32} (ivs : IvS s) (ivo : IvO s) (h : shpE s v t) : ObE s t ∧ HiE s t := by
  obtain ⟨w, k, k8, hv, t0, ⟨e1, e2⟩, rfl⟩ := h
  refine ⟨fun o ho => ⟨?_, ?_, fun f hf => ?_⟩, fun q hq => ?_, fun q hq => ?_⟩
  · have : (mF t0 0 (nI (nS s + 1))).1 8 = s.1 8 := by rw [mF_1n _ _ (by omega), e1]
    unfold nO; rw [this]; exact ho
  · unfold sh
    rw [mF_2, e2, if_neg (by omega), if_neg (by omega), if_neg (by omega)]
  · have hs := (ivo.2.2 o ho).2
    have n8 := (ivs.2.2.1 _ hs).2
    refine ⟨?_, ?_⟩
    · unfold nf
      rw [mF_2, e2, if_neg (by omega), if_neg (by omega), if_neg (by omega)]
      exact hf
    · rw [mF_2, e2, if_neg (by omega), if_neg (by omega), if_neg (by omega)]
  · rw [mF_1n _ _ (by omega), e1]
  · funext i
    rw [mF_2, e2, if_neg (by omega), if_neg (by omega), if_neg (by omega)]
theorem mkE.ob {s t : Mem} {i : Nat} (ivo : IvO s) (h9 : nO s < 60) (h : mkE s i t) : ObE s t ∧ HiE s t := by
  obtain ⟨t0, ⟨e1, e2, e3, e4, e5⟩, rfl⟩ := h
  have en : nO (mF t0 8 (nI (nO s + 1))) = nO s + 1 := by
    have : nO (mF t0 8 (nI (nO s + 1))) = ((mF t0 8 (nI (nO s + 1))).1 8).toNatClampNeg := rfl
    rw [this, mF_1s]
    exact cl _ (by omega)
  refine ⟨fun o ho => ⟨by rw [en]; omega, ?_, fun f hf => ⟨?_, ?_⟩⟩, fun q hq => ?_, fun q hq => ?_⟩
  · unfold sh
    rw [mF_2, e2, pk_un (by omega)]
  · unfold nf
    rw [mF_2, e3 2 (by omega) (by omega)]
    exact hf
  · rw [mF_2, e3 3 (by omega) (by omega)]
  · rw [mF_1n _ _ (by omega), e1]
  · rw [mF_2, e3 q (by omega) (by omega)]
theorem Cp.ob {s t : Mem} {b : Bf} {c : Nat} (ivo : IvO s) (hc : nO s + c ≤ 60) (h : Cp s b c c 0 t) : ObE s t ∧ HiE s t := by
  obtain ⟨e1, e2, e3, e4, _⟩ := h
  refine ⟨fun o ho => ⟨?_, ?_, fun f hf => ⟨?_, ?_⟩⟩, fun q hq => ?_, fun q hq => ?_⟩
  · unfold nO at *
    rw [e1, cl _ (by omega)]
    omega
  · unfold sh
    rw [e4 o ho]
  · unfold nf
    rw [e3 2 (by omega) (by omega) (by omega), sB_2 _ _ (by omega) (by omega)]
    exact hf
  · rw [e3 3 (by omega) (by omega) (by omega), sB_2 _ _ (by omega) (by omega)]
  · rw [e2 q (by omega), sB_1 _ _ (by omega)]
  · rw [e3 q (by omega) (by omega) (by omega), sB_2 _ _ (by omega) (by omega)]
abbrev XQ (G : Gk) (g : Gm) (h : Hp) (Q : Int32 → Mem → Prop) : Option Value → Hp → Prop := pI fun r h' => ∀ r' t, Q r' t → r = r' ∧ Nc G g h h' t
section B
variable (G : Gk) {g : Gm} {h : Hp} {s : Mem}
theorem xc_shape (R : RC G g h s) (I : IvA s) (v : Int32) : Ct G fe_shape [.ref (g.2 2), .int v] h (XQ G g h (R_shp s v)) := by
  refine (sp_fe_shape G R.1 I.1.2.1 I.1.2.2.1 I.1.1 v).mono (fun x h' hp => ?_)
  obtain ⟨x, e, hp⟩ := hp
  refine ⟨x, e, fun r' t hR => ⟨(hp r' t hR).1, ?_⟩⟩
  have k : ObE s t ∧ HiE s t := by
    rcases hR with ⟨_, ⟨_, _, z⟩ | ⟨_, _, z⟩⟩ | ⟨_, _, z⟩
    · exact ⟨z.ob, z.hi⟩
    · exact z.ob I.1.2.1 I.1.2.2.1
    · exact ⟨z.ob, z.hi⟩
  exact (hp r' t hR).2.nc R k.1 k.2
theorem xc_number (R : RC G g h s) (I : IvA s) (v a b q1 q2 : Int32) : Ct G fe_number [.ref (g.2 2), .int v, .int a, .int b, .int q1, .int q2] h (XQ G g h (R_num s v a b q1 q2)) := by
  have n10 := I.1.2.1.2.1
  refine (sp_fe_number G R.1 I.1.2.1 I.1.2.2.1 I.1.1 v a b q1 q2).mono (fun x h' hp => ?_)
  obtain ⟨x, e, hp⟩ := hp
  refine ⟨x, e, fun r' t hR => ⟨(hp r' t hR).1, ?_⟩⟩
  have k : ObE s t ∧ HiE s t := by
    rcases hR with ⟨⟨⟨i, hi, rfl⟩, _⟩, z⟩ | ⟨_, _, z⟩
    · rw [cl i (by omega)] at z
      exact z.ob I.1.2.1 I.1.2.2.1 hi
    · exact ⟨z.ob, z.hi⟩
  exact (hp r' t hR).2.nc R k.1 k.2
theorem xc_link (R : RC G g h s) (I : IvA s) (v u l q1 q2 q3 : Int32) : Ct G fe_link [.ref (g.2 2), .int v, .int u, .int l, .int q1, .int q2, .int q3] h (XQ G g h (R_lnk s v u l q1 q2 q3)) := by
  have n10 := I.1.2.1.2.1
  refine (sp_fe_link G R.1 I.1.2.1 I.1.2.2.1 I.1.1 v u l q1 q2 q3).mono (fun x h' hp => ?_)
  obtain ⟨x, e, hp⟩ := hp
  refine ⟨x, e, fun r' t hR => ⟨(hp r' t hR).1, ?_⟩⟩
  have k : ObE s t ∧ HiE s t := by
    rcases hR with ⟨⟨⟨i, hi, rfl⟩, _⟩, z⟩ | ⟨_, _, z⟩
    · rw [cl i (by omega)] at z
      exact z.ob I.1.2.1 I.1.2.2.1 hi
    · exact ⟨z.ob, z.hi⟩
  exact (hp r' t hR).2.nc R k.1 k.2
theorem xc_derived (R : RC G g h s) (I : IvA s) (v c f y : Int32) : Ct G fe_derived [.ref (g.2 2), .int v, .int c, .int f, .int y] h (XQ G g h (R_der s v c f y)) := by
  have n10 := I.1.2.1.2.1
  refine (sp_fe_derived G R.1 I.1.2.1 I.1.2.2.1 I.1.2.2.2.1 I.1.1 v c f y).mono (fun x h' hp => ?_)
  obtain ⟨x, e, hp⟩ := hp
  refine ⟨x, e, fun r' t hR => ⟨(hp r' t hR).1, ?_⟩⟩
  have k : ObE s t ∧ HiE s t := by
    rcases hR with ⟨⟨⟨i, hi, rfl⟩, _⟩, z⟩ | ⟨_, _, z⟩
    · rw [cl i (by omega)] at z
      exact z.ob I.1.2.1 I.1.2.2.1 hi
    · exact ⟨z.ob, z.hi⟩
  exact (hp r' t hR).2.nc R k.1 k.2
theorem xc_told (R : RC G g h s) (I : IvA s) (v f w : Int32) : Ct G fe_told [.ref (g.2 2), .int v, .int f, .int w] h (XQ G g h (No s (toldM s v f w))) := by
  refine (sp_fe_told G R.1.1 R.1.2.1 I.1.2.1 v f w).mono (fun x h' hp => ?_)
  obtain ⟨x, e, rfl, hp⟩ := hp
  exact ⟨x, e, fun r' t hR => ⟨hp.trans hR.1.symm, Nc.rf R hR.2⟩⟩
theorem xc_object (R : RC G g h s) (I : IvA s) (v : Int32) : Ct G fe_object [.ref (g.2 2), .int v] h (XQ G g h (R_obj s v)) := by
  have n60 := I.1.2.2.1.2.1
  refine (sp_fe_object G R.1 I.1.2.1 I.1.2.2.1 I.1.2.2.2.1 I.1.1 v).mono (fun x h' hp => ?_)
  obtain ⟨x, e, hp⟩ := hp
  refine ⟨x, e, fun r' t hR => ⟨(hp r' t hR).1, ?_⟩⟩
  have k : ObE s t ∧ HiE s t := by
    rcases hR with ⟨_, ⟨_, _, z⟩ | ⟨q, _, z⟩⟩ | ⟨_, _, z⟩
    · exact ⟨z.ob, z.hi⟩
    · exact z.ob I.1.2.2.1 (by omega)
    · exact ⟨z.ob, z.hi⟩
  exact (hp r' t hR).2.nc R k.1 k.2
theorem xc_get (R : RC G g h s) (I : IvA s) (v f : Int32) : Ct G fe_get [.ref (g.2 2), .int v, .int f] h (XQ G g h (No s (getM s v f))) := by
  refine (sp_fe_get G R.1 I.1.1 I.1.2.1 I.1.2.2.1 I.1.2.2.2.1 I.1.2.2.2.2.1 I.1.2.2.2.2.2.1 v f).mono (fun x h' hp => ?_)
  obtain ⟨x, e, h1, h2, h3⟩ := hp
  exact ⟨x, e, fun r' t hR => ⟨h1.trans hR.1.symm, Nc.sc R h2 h3 hR.2⟩⟩
theorem xc_element (R : RC G g h s) (I : IvA s) (v f i : Int32) : Ct G fe_element [.ref (g.2 2), .int v, .int f, .int i] h (XQ G g h (fun r t => R_elt s v f i r ∧ Sc s t)) := by
  refine (sp_fe_element G R.1 I.1.2.1 I.1.2.2.1 I.1.2.2.2.2.1 v f i).mono (fun x h' hp => ?_)
  obtain ⟨x, e, rfl, hp⟩ := hp
  refine ⟨x, e, fun r' t hR => ⟨?_, Nc.rf R hR.2⟩⟩
  rcases hp with ⟨h1, h2⟩ | ⟨h1, h2⟩
  · exact h2.det (hR.1.t h1)
  · rw [h2, hR.1.f h1]
theorem xc_shapeOf (R : RC G g h s) (I : IvA s) (v : Int32) : Ct G fe_shapeOf [.ref (g.2 2), .int v] h (XQ G g h (fun r t => cs (iO s v) (r = s.2 9 v.toNatClampNeg) (r = -2) ∧ Sc s t)) := by
  refine (sp_fe_shapeOf G R.1 I.1.2.2.1 v).mono (fun x h' hp => ?_)
  obtain ⟨x, e, rfl, hp⟩ := hp
  exact ⟨x, e, fun r' t hR => ⟨hp.det hR.1, Nc.rf R hR.2⟩⟩
theorem xc_holders (R : RC G g h s) (I : IvA s) (v : Int32) : Ct G fe_holders [.ref (g.2 2), .int v] h (XQ G g h (fun r t => cs (iO s v) (r = hdO s v (nO s)) (r = -2) ∧ Sc s t)) := by
  refine (sp_fe_holders G R.1 I.1.2.1 I.1.2.2.1 I.1.2.2.2.2.1 v).mono (fun x h' hp => ?_)
  obtain ⟨x, e, rfl, hp⟩ := hp
  exact ⟨x, e, fun r' t hR => ⟨hp.det hR.1, Nc.rf R hR.2⟩⟩
theorem xc_holds (R : RC G g h s) (I : IvA s) (v w : Int32) : Ct G fe_holds [.ref (g.2 2), .int v, .int w] h (XQ G g h (fun r t => R_hol s v w r ∧ Sc s t)) := by
  refine (sp_fe_holds G R.1 I.1.1 I.1.2.1 I.1.2.2.1 I.1.2.2.2.2.1 v w).mono (fun x h' hp => ?_)
  obtain ⟨x, e, h1, h2, h3⟩ := hp
  exact ⟨x, e, fun r' t hR => ⟨cs.det h1 hR.1, Nc.sc R h2 h3 hR.2⟩⟩
theorem xc_set (R : RC G g h s) (I : IvA s) (v1 v2 v : Int32) : Ct G fe_set [.ref (g.2 2), .int v1, .int v2, .int v] h (XQ G g h (R_set s v1 v2 v)) := sp_fe_set G R I.1 v1 v2 v
theorem xc_lead (R : RC G g h s) (I : IvA s) (v1 v2 v : Int32) : Ct G fe_lead [.ref (g.2 2), .int v1, .int v2, .int v] h (XQ G g h (R_lea s v1 v2 v)) := sp_fe_lead G R I.1 v1 v2 v
theorem xc_unset (R : RC G g h s) (I : IvA s) (v1 v2 : Int32) : Ct G fe_unset [.ref (g.2 2), .int v1, .int v2] h (XQ G g h (R_uns s v1 v2)) := sp_fe_unset G R I.1 v1 v2
theorem xc_insert (R : RC G g h s) (I : IvA s) (v1 v2 v w : Int32) : Ct G fe_insert [.ref (g.2 2), .int v1, .int v2, .int v, .int w] h (XQ G g h (R_ins s v1 v2 v w)) := sp_fe_insert G R I.1 v1 v2 v w
theorem xc_remove (R : RC G g h s) (I : IvA s) (v1 v2 v : Int32) : Ct G fe_remove [.ref (g.2 2), .int v1, .int v2, .int v] h (XQ G g h (R_rem s v1 v2 v)) := sp_fe_remove G R I.1 v1 v2 v
theorem xc_sort (R : RC G g h s) (I : IvA s) (v1 v2 v fl : Int32) : Ct G fe_sort [.ref (g.2 2), .int v1, .int v2, .int v, .int fl] h (XQ G g h (R_srt s v1 v2 v fl)) := sp_fe_sort G R I.1 v1 v2 v fl
theorem xc_begin (R : RC G g h s) (I : IvA s) : Ct G fe_begin [.ref (g.2 2)] h (XQ G g h (R_beg s)) := sp_fe_begin G R I.1
theorem xc_commit (R : RC G g h s) (I : IvA s) : Ct G fe_commit [.ref (g.2 2)] h (XQ G g h (R_com s)) := sp_fe_commit G R I.1
theorem xc_abort (R : RC G g h s) (I : IvA s) : Ct G fe_abort [.ref (g.2 2)] h (XQ G g h (R_abt s)) := sp_fe_abort G R I.1 I.2.1
theorem xc_undo (R : RC G g h s) (I : IvA s) : Ct G fe_undo [.ref (g.2 2)] h (XQ G g h (R_und s)) := sp_fe_undo G R I.1 I.2.1
theorem xc_redo (R : RC G g h s) (I : IvA s) : Ct G fe_redo [.ref (g.2 2)] h (XQ G g h (R_red s)) := sp_fe_redo G R I.1 I.2.1
theorem xc_path (R : RC G g h s) (I : IvA s) : Ct G fe_path [.ref (g.2 2)] h (XQ G g h (R_pth s)) := by
  refine (sp_fe_path G R.1 I.1.1 I.2.2.2.2.2.1).mono (fun x h' hp => ?_)
  obtain ⟨x, e, hp⟩ := hp
  refine ⟨x, e, fun r' t hR => ⟨(hp r' t hR).1, ?_⟩⟩
  have k : ObE s t ∧ HiE s t := by
    rcases hR with ⟨_, _, z⟩ | ⟨_, _, z⟩
    · exact ⟨z.ob, z.hi⟩
    · subst z
      exact ⟨ObE.of (mF_1n _ _ (by omega)) rfl rfl rfl, fun q hq => mF_1n _ _ (by omega), fun q hq => by rw [mF_2, mA_2n _ _ _ (by omega)]⟩
  exact (hp r' t hR).2.nc R k.1 k.2
theorem xc_step (R : RC G g h s) (I : IvA s) (v k n : Int32) : Ct G fe_step [.ref (g.2 2), .int v, .int k, .int n] h (XQ G g h (R_stp s v k n)) := by
  refine (sp_fe_step G R.1 I.1.1 I.1.2.1 I.2.2.2.2.2.1 v k n).mono (fun x h' hp => ?_)
  obtain ⟨x, e, hp⟩ := hp
  refine ⟨x, e, fun r' t hR => ⟨(hp r' t hR).1, ?_⟩⟩
  have k : ObE s t ∧ HiE s t := by
    rcases hR with ⟨_, ⟨_, _, z⟩ | ⟨_, _, z⟩⟩ | ⟨_, _, z⟩
    · exact ⟨z.ob, z.hi⟩
    · subst z
      exact ⟨ObE.of rfl rfl rfl rfl, fun q hq => rfl, fun q hq => by rw [mA_2n _ _ _ (by omega), mA_2n _ _ _ (by omega), mA_2n _ _ _ (by omega)]⟩
    · exact ⟨z.ob, z.hi⟩
  exact (hp r' t hR).2.nc R k.1 k.2
theorem xc_fault (R : RC G g h s) (I : IvA s) (v w : Int32) : Ct G fe_fault [.ref (g.2 2), .int v, .int w] h (XQ G g h (fun r t => R_flt s v w r ∧ Sc s t)) := by
  refine (sp_fe_fault G R.1 I.1.2.1 I.1.2.2.2.1 I.2.2.2.2.2.1 v w).mono (fun x h' hp => ?_)
  obtain ⟨x, e, rfl, hp⟩ := hp
  exact ⟨x, e, fun r' t hR => ⟨cs.det hp hR.1, Nc.rf R hR.2⟩⟩
theorem xc_matches (R : RC G g h s) (I : IvA s) (v w : Int32) : Ct G fe_matches [.ref (g.2 2), .int v, .int w] h (XQ G g h (fun r t => R_mts s v w r ∧ Sc s t)) := by
  refine (sp_fe_matches G R.1 I.1.1 I.1.2.1 I.1.2.2.1 I.1.2.2.2.2.1 I.2.2.2.2.2.1 v w).mono (fun x h' hp => ?_)
  obtain ⟨x, e, h1, h2, h3⟩ := hp
  exact ⟨x, e, fun r' t hR => ⟨cs.det h1 hR.1, Nc.sc R h2 h3 hR.2⟩⟩
theorem xc_match (R : RC G g h s) (I : IvA s) (v w i y : Int32) : Ct G fe_match [.ref (g.2 2), .int v, .int w, .int i, .int y] h (XQ G g h (fun r t => R_mch s v w i y r ∧ Sc s t)) := by
  refine (sp_fe_match G R.1 I.1.1 I.1.2.1 I.1.2.2.1 I.1.2.2.2.2.1 I.2.2.2.2.2.1 v w i y).mono (fun x h' hp => ?_)
  obtain ⟨x, e, h1, h2, h3⟩ := hp
  exact ⟨x, e, fun r' t hR => ⟨cs.det h1 hR.1, Nc.sc R h2 h3 hR.2⟩⟩
theorem xc_copy (R : RC G g h s) (I : IvA s) (v : Int32) : Ct G fe_copy [.ref (g.2 2), .int v] h (XQ G g h (R_cpy s v)) := by
  refine (sp_fe_copy G R.1 I.1.1 I.1.2.1 I.1.2.2.1 I.1.2.2.2.1 I.1.2.2.2.2.1 v).mono (fun x h' hp => ?_)
  obtain ⟨x, e, hp⟩ := hp
  refine ⟨x, e, fun r' t hR => ⟨(hp r' t hR).1, ?_⟩⟩
  have k : ObE s t ∧ HiE s t := by
    rcases hR with ⟨_, ⟨_, _, z⟩ | ⟨q, _, z⟩⟩ | ⟨_, _, z⟩
    · exact ⟨z.ob, z.hi⟩
    · exact z.ob I.1.2.2.1 (by omega)
    · exact ⟨z.ob, z.hi⟩
  exact (hp r' t hR).2.nc R k.1 k.2
theorem xc_alike (R : RC G g h s) (I : IvA s) (v w : Int32) : Ct G fe_alike [.ref (g.2 2), .int v, .int w] h (XQ G g h (fun r t => R_alk s v w r ∧ Sc s t)) := by
  refine (sp_fe_alike G R.1 I.1.1 I.1.2.1 I.1.2.2.1 I.1.2.2.2.1 I.1.2.2.2.2.1 v w).mono (fun x h' hp => ?_)
  obtain ⟨x, e, h1, h2, h3⟩ := hp
  exact ⟨x, e, fun r' t hR => ⟨cs.det h1 hR.1, Nc.sc R h2 h3 hR.2⟩⟩
theorem xc_watch (R : RC G g h s) (I : IvA s) (v f vt l : Int32) (hvt : vt = 0 ∨ vt = 1) : Ct G fe_watch [.ref (g.2 2), .int v, .int f, .int vt, .int l] h (XQ G g h (R_wat s v f vt l)) := by
  refine (sp_fe_watch G R.1 I.1.1 I.1.2.1 I.1.2.2.2.2.2.2.1 v f vt l hvt).mono (fun x h' hp => ?_)
  obtain ⟨x, e, hp⟩ := hp
  refine ⟨x, e, fun r' t hR => ⟨(hp r' t hR).1, ?_⟩⟩
  have k : ObE s t ∧ HiE s t := by
    rcases hR with ⟨_, ⟨_, _, z⟩ | ⟨_, _, z⟩⟩ | ⟨_, _, z⟩
    · exact ⟨z.ob, z.hi⟩
    · subst z
      exact ⟨ObE.of (watM_1 _ _ _ _ _ (by omega)) (watM_n _ _ _ _ _ (by omega)) (watM_n _ _ _ _ _ (by omega)) (watM_n _ _ _ _ _ (by omega)), fun q hq => watM_1 _ _ _ _ _ (by omega), fun q hq => watM_n _ _ _ _ _ (by omega)⟩
    · exact ⟨z.ob, z.hi⟩
  exact (hp r' t hR).2.nc R k.1 k.2
theorem xc_note (R : RC G g h s) (I : IvA s) (v k w : Int32) : Ct G fe_note [.ref (g.2 2), .int v, .int k, .int w] h (XQ G g h (No s (noteM s v k w))) := by
  refine (sp_fe_note G R.1 I.1.2.2.2.2.2.2.1 v k w).mono (fun x h' hp => ?_)
  obtain ⟨x, e, rfl, hp⟩ := hp
  exact ⟨x, e, fun r' t hR => ⟨hp.trans hR.1.symm, Nc.rf R hR.2⟩⟩
theorem xc_lacks (R : RC G g h s) (I : IvA s) : Ct G fe_lacks [.ref (g.2 2)] h (XQ G g h (No s (lkO s (nO s)))) := by
  refine (sp_fe_lacks G R.1 I.1.2.1 I.1.2.2.1 I.1.2.2.2.1 I.1.2.2.2.2.1 I.2.2.2.2.1).mono (fun x h' hp => ?_)
  obtain ⟨x, e, rfl, hp⟩ := hp
  exact ⟨x, e, fun r' t hR => ⟨hp.trans hR.1.symm, Nc.rf R hR.2⟩⟩
theorem xc_count (R : RC G g h s) (I : IvA s) (w : Int32) : Ct G fe_count [.ref (g.2 2), .int w] h (XQ G g h (No s (cntM s w))) := by
  refine (sp_fe_count G R I.1.2.2.2.2.2.2.2.1 w).mono (fun x h' hp => ?_)
  obtain ⟨x, e, rfl, hp⟩ := hp
  exact ⟨x, e, fun r' t hR => ⟨hp.trans hR.1.symm, Nc.rf R hR.2⟩⟩
theorem xc_digest (R : RC G g h s) (I : IvA s) : Ct G fe_digest [.ref (g.2 2)] h (pL fun r h' => ∀ (r' : Int64) (t : Mem), (r' = digM s ∧ Sc s t) → r = r' ∧ Nc G g h h' t) := by
  refine (sp_fe_digest G R I.1.1 I.1.2.1 I.1.2.2.1 I.1.2.2.2.1 I.1.2.2.2.2.1 I.1.2.2.2.2.2.1).mono (fun x h' hp => ?_)
  obtain ⟨x, e, h1, h2, h3⟩ := hp
  exact ⟨x, e, fun r' t hR => ⟨h1.trans hR.1.symm, Nc.sc R h2 h3 hR.2⟩⟩
end B
