/-! takeBack, doAgain -/
theorem PutR.pm {g : Gm} {h : Hp} {s : Mem} {o f b j e : Nat} (k0 : s.2 3 (8 * sh s o + f) = 0 ∨ s.2 3 (8 * sh s o + f) = 1 ∨ s.2 3 (8 * sh s o + f) = 2) (H : RwR g h s o f b (s.2 j (7 * e)) (fun i => s.2 j (7 * e + 1 + i))) : PutR s o f (rwN (s.2 3 (8 * sh s o + f)) (s.2 j (7 * e))) (rwF (s.2 3 (8 * sh s o + f)) (s.2 j (7 * e)) (fun i => s.2 j (7 * e + 1 + i))) (putM s j e (8 * o + f)) ∧ LnOK s o f (rwN (s.2 3 (8 * sh s o + f)) (s.2 j (7 * e))) := by
  obtain ⟨q1, _⟩ := H
  have ok := putM_ok s j e (8 * o + f)
  refine ⟨⟨fun q _ => rfl, fun q _ a b => ok.2.1 q a b, fun x hx => by rw [ok.2.2.1, pk_un hx], ok.2.2.2.1, ?_, fun hk i hi => ?_⟩, fun e => by rw [e]; rfl, fun e => by rw [e]; rfl, fun e => ?_⟩
  · rw [ok.2.2.1, pk_us]
    unfold plV rwN rwF
    rcases k0 with y | y | y
    · rw [y]; rfl
    · rw [y]; rfl
    · rw [y]
      obtain ⟨n, n1, n2⟩ := q1 y
      rw [if_neg (by decide), if_pos rfl, n2, cl n (by omega)]
  · obtain ⟨n, n1, n2⟩ := q1 hk
    unfold rwN at hi
    rw [if_pos hk, n2, cl n (by omega)] at hi
    rw [ok.2.2.2.2 i (by omega)]
    unfold rwF
    rw [if_pos hk]
  · obtain ⟨n, n1, n2⟩ := q1 e
    unfold rwN
    rw [if_pos e, n2, cl n (by omega)]
    exact n1
def PutD (r : Nat) : Prop := r < 300 ∨ (400 ≤ r ∧ r < 700) ∨ 1100 ≤ r
def GoCh (b : Bool) : Nat → Nat → Mem → Mem → Prop
  | 0, _, s, t => t = s
  | n + 1, k, s, t => ∃ t1, GoE (if b then mF s 16 (nI (k - 1)) else s) 18 (k - 1) t1 ∧ GoCh b n (k - 1) t1 t
theorem UnE.ch : ∀ (n k : Nat) (s t : Mem), UnE n k s t → GoCh false n k s t
  | 0, _, _, _, h => h
  | n + 1, k, s, t, ⟨t1, h1, h2⟩ => ⟨t1, h1, UnE.ch n (k - 1) t1 t h2⟩
theorem AbE.ch : ∀ (n k : Nat) (s t : Mem), AbE n k s t → GoCh true n k s t
  | 0, _, _, _, h => h
  | n + 1, k, s, t, ⟨t1, h1, h2⟩ => ⟨t1, h1, AbE.ch n (k - 1) t1 t h2⟩
theorem EdOK.go {s : Mem} {j e o f e' : Nat} (H : EdOK s e') : EdOK (goM s j e o f) e' := by
  obtain ⟨o', f', a, b, c, d, x, y⟩ := H
  have e2 := fun q h1 h2 h3 h4 => goM_2 s j e o f (q := q) h1 h2 h3 h4
  have esh : sh (goM s j e o f) = sh s := by funext x; unfold sh; rw [e2 9 (by omega) (by omega) (by omega) (by omega)]
  have enf : nf (goM s j e o f) = nf s := by funext x; unfold nf; rw [e2 2 (by omega) (by omega) (by omega) (by omega)]
  refine ⟨o', f', a, by rw [enf, esh]; exact b, by rw [esh, e2 3 (by omega) (by omega) (by omega) (by omega)]; exact c, by rw [e2 17 (by omega) (by omega) (by omega) (by omega)]; exact d, ?_, ?_⟩
  · unfold RwOK
    rw [esh, e2 3 (by omega) (by omega) (by omega) (by omega), e2 18 (by omega) (by omega) (by omega) (by omega)]
    exact x
  · unfold RwOK
    rw [esh, e2 3 (by omega) (by omega) (by omega) (by omega), e2 19 (by omega) (by omega) (by omega) (by omega)]
    exact y
theorem goM_ob (s : Mem) (j e o f : Nat) : ObE s (goM s j e o f) := ObE.of rfl (goM_2 s j e o f (by omega) (by omega) (by omega) (by omega)) (goM_2 s j e o f (by omega) (by omega) (by omega) (by omega)) (goM_2 s j e o f (by omega) (by omega) (by omega) (by omega))
theorem EdR.go {g : Gm} {h h' : Hp} {s : Mem} {j e o f e' y : Nat} {D : Nat → Prop} (H : EdR g h s e' y) (S : Stq g h D g h') (h1 : D 1) : EdR g h' (goM s j e o f) e' y :=
  H.mv S h1 (goM_ob s j e o f) (by rw [goM_2 s j e o f (by omega) (by omega) (by omega) (by omega)]) (fun k _ => ⟨by rw [goM_2 s j e o f (by omega) (by omega) (by omega) (by omega)], by rw [goM_2 s j e o f (by omega) (by omega) (by omega) (by omega)]⟩)
theorem lp_back (G : Gk) {g : Gm} {h0 : Hp} {x a lo : Nat} {es : List Nat} (Ix : Im g h0 x (3, [.ref a])) (La : ImL G g h0 a es) (h5 : es.length < 1000) : ∀ (c : Nat) (s : Mem) (h : Hp) (l3 : Option Value), c ≤ es.length → RB g h s → Jv s → (∀ i y, i < c → es[i]? = some y → EdR g h s (lo + i) y) → (∀ i, i < c → EdOK s (lo + i)) → Stq g h0 PutD g h →
    V G fe_takeBack (pN fun h' => (∀ b s0 t, Q16 s s0 → GoCh b c (lo + c) s0 t → RB g h' t) ∧ Stq g h0 PutD g h') h 0 0 10 [some (.ref (g.2 2)), some (.ref x), some (.int (nI c - 1)), l3] [] := by
  intro c
  induction c with
  | zero =>
    intro s h l3 hc R J he hok S
    refine V_iload_n d_fe_takeBack_10 rfl rfl ?_
    refine V_if_lt d_fe_takeBack_11 (fun c11 => ?_) (fun c11 => ?_)
    · skip
      refine V_return d_fe_takeBack_48 rfl ?_
      exact ⟨rfl, fun b s0 t hq ht => by rw [show t = s0 from ht]; exact R.co hq.co, S⟩
    · skip
      exact absurd (by decide) c11
  | succ c ih =>
    intro s h l3 hc R J he hok S
    have J0 := J
    obtain ⟨hm, ivs, ivo, ivw, ivf, ivv⟩ := J
    have X := R.1
    have d1 : PutD 1 := Or.inl (by omega)
    have Ix1 := Ix.st S d1
    obtain ⟨d, cap, hA⟩ := (La.st S d1).al
    obtain ⟨mc, hAo⟩ := hA.1
    obtain ⟨y, hy⟩ : ∃ y, es[c]? = some y := ⟨_, List.getElem?_eq_getElem (by omega)⟩
    obtain ⟨o, f, b1, b2, q1, q2, q3, q4, q5, q6, q7⟩ := he c y (by omega) hy
    have k0 := kinds ivo ivf q1 q2 q3
    obtain ⟨pm, ln⟩ := PutR.pm k0 q6
    obtain ⟨o', f', z1, z2, z3, z4, z5, z6⟩ := hok c (by omega)
    have n8 := (ivs.2.2.1 _ (ivo.2.2 o q1).2).2
    have n8' := (ivs.2.2.1 _ (ivo.2.2 o' z1).2).2
    have n60 := ivo.2.1
    have eo : 8 * o' + f' = 8 * o + f := nI_inj8 (by omega) (by omega) (by rw [← z4, q4])
    obtain rfl : o' = o := by omega
    obtain rfl : f' = f := by omega
    rw [show nI (c + 1) - 1 = nI c by rw [ixm (by omega)]; rfl]
    refine V_iload_n d_fe_takeBack_10 rfl rfl ?_
    refine V_if_lt d_fe_takeBack_11 (fun c11 => ?_) (fun c11 => ?_)
    · skip
      exact absurd c11 (nI_pos (by omega))
    · skip
      refine V_aload_n d_fe_takeBack_14 rfl rfl ?_
      refine V_getf d_fe_takeBack_15 fl_fe_262 Ix1.1 rfl ?_
      refine V_iload_n d_fe_takeBack_18 rfl rfl ?_
      refine V_callV (N := al_get) d_fe_takeBack_19 ml_fe_349 mdf_al_get wi_al_get wz_al_get (sp_al_get G hA hy) hAo ⟨_, rfl, rfl⟩ rfl rfl (by decide) (by decide) (Nat.le_of_ble_eq_true rfl) rfl rfl (kR fun r19 h19 ⟨e19, f19⟩ => ?_)
      subst e19 f19
      refine V_castY d_fe_takeBack_22 q5.1 (show vwCl[1]? = some _ from rfl) kl_fe_336 wo_castable_1 ?_
      refine V_astore_n d_fe_takeBack_25 rfl (by decide) rfl rfl ?_
      dsimp only [List.set]
      refine V_aload_n d_fe_takeBack_26 rfl rfl ?_
      refine V_aload_n d_fe_takeBack_27 rfl rfl ?_
      refine V_getf d_fe_takeBack_28 fl_fe_352 q5.1 rfl ?_
      refine V_aload_n d_fe_takeBack_31 rfl rfl ?_
      refine V_getf d_fe_takeBack_32 fl_fe_355 q5.1 rfl ?_
      refine V_aload_n d_fe_takeBack_35 rfl rfl ?_
      refine V_getf d_fe_takeBack_36 fl_fe_358 q5.1 rfl ?_
      refine V_callV (N := fe_put) d_fe_takeBack_39 ml_fe_345 mdf_fe_put wi_fe_put wz_fe_put (sp_fe_put G R hm ivs ivo ivw ivf ivv q1 q2 q3 ln q6.2) (by first | assumption | exact X.1 | exact hu_self _ _ _ | (simp (disch := first | assumption | (apply Ne.symm; assumption)) only [hu_self, hu_ne]; assumption)) ⟨_, rfl, rfl⟩ rfl rfl (by decide) (by decide) (Nat.le_of_ble_eq_true rfl) rfl rfl (kN fun h39 ⟨p1, p2⟩ => ?_)
      have R1 : RB g h39 (goM s 18 (lo + c) o' f') := p1 _ _ pm (ntM_ok _ _ _ _ _)
      have p2' := p2.mo (E := PutD) (fun r hr => by unfold PutD at hr; omega)
      refine V_iinc (v := _) d_fe_takeBack_42 rfl rfl (by decide) rfl rfl ?_
      dsimp only [List.set]
      refine V_goto d_fe_takeBack_45 ?_
      rw [show Int32.ofInt (-1) = -1 from rfl, ← Int32.sub_eq_add_neg]
      refine (ih (goM s 18 (lo + c) o' f') h39 _ (by omega) R1 (J0.go q1 q2 z5) (fun i y hi hy => (he i y (by omega) hy).go p2' d1) (fun i hi => (hok i (by omega)).go) (S.tr p2')).mono (fun v h' hp => ?_)
      refine ⟨hp.1, fun b s0 t hq ht => ?_, hp.2.2⟩
      obtain ⟨t1, hg, hch⟩ := ht
      have hq2 : Q16 s (if b then mF s0 16 (nI (lo + (c + 1) - 1)) else s0) := by by_cases z : b = true; (rw [if_pos z]; exact ⟨by rw [mF_2]; exact hq.1, fun q h16 => by rw [mF_1n _ _ h16]; exact hq.2 q h16⟩); (rw [if_neg z]; exact hq)
      have ivs' : IvS (if b then mF s0 16 (nI (lo + (c + 1) - 1)) else s0) := by unfold IvS nS nf; rw [hq2.2 0 (by omega), hq2.1]; exact ivs
      have ivo' : IvO (if b then mF s0 16 (nI (lo + (c + 1) - 1)) else s0) := by unfold IvO nO nS sh; rw [hq2.2 0 (by omega), hq2.2 8 (by omega), hq2.1]; exact ivo
      have et := hg.eq (o := o') (f := f') ivs' ivo' (by unfold nO; rw [hq2.2 8 (by omega)]; exact q1) (by unfold nf sh; rw [hq2.1]; exact q2) (by rw [hq2.1]; exact q4)
      subst et
      exact hp.2.1 b _ t (goM_q hq2 18 (lo + (c + 1) - 1) o' f') hch
theorem sp_fe_takeBack (G : Gk) {g : Gm} {h : Hp} {s : Mem} {x a lo : Nat} {es : List Nat} (R : RB g h s) (J : Jv s) (Ix : Im g h x (3, [.ref a])) (La : ImL G g h a es) (h5 : es.length < 1000) (he : ∀ i y, es[i]? = some y → EdR g h s (lo + i) y) (hok : ∀ i, i < es.length → EdOK s (lo + i)) : Ct G fe_takeBack [.ref (g.2 2), .ref x] h (pN fun h' => (∀ b s0 t, Q16 s s0 → GoCh b es.length (lo + es.length) s0 t → RB g h' t) ∧ Stq g h PutD g h') := by
  obtain ⟨d, cap, hA⟩ := La.al
  obtain ⟨mc, hAo⟩ := hA.1
  refine Ct.ofL (M := fe_takeBack) (lv := [some (.ref (g.2 2)), some (.ref x), none, none]) mdf_fe_takeBack rfl (Nat.le_of_ble_eq_true rfl) rfl ?_
  refine V_aload_n d_fe_takeBack_0 rfl rfl ?_
  refine V_getf d_fe_takeBack_1 fl_fe_262 Ix.1 rfl ?_
  refine V_callV (N := al_size) d_fe_takeBack_4 ml_fe_275 mdf_al_size wi_al_size wz_al_size (sp_al_size G hA) hAo ⟨_, rfl, rfl⟩ rfl rfl (by decide) (by decide) (Nat.le_of_ble_eq_true rfl) rfl rfl (kI fun r4 h4 ⟨e4, f4⟩ => ?_)
  subst e4 f4
  refine V_iconst (v := 1) d_fe_takeBack_7 (by decide) ?_
  refine V_isub d_fe_takeBack_8 ?_
  refine V_istore_n d_fe_takeBack_9 rfl (by decide) rfl rfl ?_
  dsimp only [List.set]
  exact lp_back G Ix La h5 es.length s h none (Nat.le_refl _) R J (fun i y _ hy => he i y hy) hok (Stq.rf _ _ _)
theorem lp_again (G : Gk) {g : Gm} {h0 : Hp} {x a lo : Nat} {es : List Nat} (Ix : Im g h0 x (3, [.ref a])) (La : ImL G g h0 a es) (h5 : es.length < 1000) : ∀ (c k : Nat) (s : Mem) (h : Hp) (l3 : Option Value), k + c = es.length → RB g h s → Jv s → (∀ i y, es[i]? = some y → EdR g h s (lo + i) y) → (∀ i, i < es.length → EdOK s (lo + i)) → Stq g h0 PutD g h →
    V G fe_doAgain (pN fun h' => (∀ t, ReE c (lo + k) s t → RB g h' t) ∧ Stq g h0 PutD g h') h 0 0 2 [some (.ref (g.2 2)), some (.ref x), some (.int (nI k)), l3] [] := by
  intro c
  induction c with
  | zero =>
    intro k s h l3 hc R J he hok S
    obtain rfl : k = es.length := by omega
    have d1 : PutD 1 := Or.inl (by omega)
    have Ix1 := Ix.st S d1
    obtain ⟨d, cap, hA⟩ := (La.st S d1).al
    obtain ⟨mc, hAo⟩ := hA.1
    refine V_iload_n d_fe_doAgain_2 rfl rfl ?_
    refine V_aload_n d_fe_doAgain_3 rfl rfl ?_
    refine V_getf d_fe_doAgain_4 fl_fe_262 Ix1.1 rfl ?_
    refine V_callV (N := al_size) d_fe_doAgain_7 ml_fe_275 mdf_al_size wi_al_size wz_al_size (sp_al_size G hA) hAo ⟨_, rfl, rfl⟩ rfl rfl (by decide) (by decide) (Nat.le_of_ble_eq_true rfl) rfl rfl (kI fun r7 h7 ⟨e7, f7⟩ => ?_)
    subst e7 f7
    refine V_icmp_ge d_fe_doAgain_10 (fun c10 => ?_) (fun c10 => ?_)
    · skip
      refine V_return d_fe_doAgain_47 rfl ?_
      exact ⟨rfl, fun t ht => by rw [show t = s from ht]; exact R, S⟩
    · skip
      exact absurd (ltN c10 (by omega)) (by omega)
  | succ c ih =>
    intro k s h l3 hc R J he hok S
    have J0 := J
    obtain ⟨hm, ivs, ivo, ivw, ivf, ivv⟩ := J
    have X := R.1
    have d1 : PutD 1 := Or.inl (by omega)
    have Ix1 := Ix.st S d1
    obtain ⟨d, cap, hA⟩ := (La.st S d1).al
    obtain ⟨mc, hAo⟩ := hA.1
    obtain ⟨y, hy⟩ : ∃ y, es[k]? = some y := ⟨_, List.getElem?_eq_getElem (by omega)⟩
    obtain ⟨o, f, b1, b2, q1, q2, q3, q4, q5, q6, q7⟩ := he k y hy
    have k0 := kinds ivo ivf q1 q2 q3
    obtain ⟨pm, ln⟩ := PutR.pm k0 q7
    obtain ⟨o', f', z1, z2, z3, z4, z5, z6⟩ := hok k (by omega)
    have n8 := (ivs.2.2.1 _ (ivo.2.2 o q1).2).2
    have n8' := (ivs.2.2.1 _ (ivo.2.2 o' z1).2).2
    have n60 := ivo.2.1
    have eo : 8 * o' + f' = 8 * o + f := nI_inj8 (by omega) (by omega) (by rw [← z4, q4])
    obtain rfl : o' = o := by omega
    obtain rfl : f' = f := by omega
    refine V_iload_n d_fe_doAgain_2 rfl rfl ?_
    refine V_aload_n d_fe_doAgain_3 rfl rfl ?_
    refine V_getf d_fe_doAgain_4 fl_fe_262 Ix1.1 rfl ?_
    refine V_callV (N := al_size) d_fe_doAgain_7 ml_fe_275 mdf_al_size wi_al_size wz_al_size (sp_al_size G hA) hAo ⟨_, rfl, rfl⟩ rfl rfl (by decide) (by decide) (Nat.le_of_ble_eq_true rfl) rfl rfl (kI fun r7 h7 ⟨e7, f7⟩ => ?_)
    subst e7 f7
    refine V_icmp_ge d_fe_doAgain_10 (fun c10 => ?_) (fun c10 => ?_)
    · skip
      exact absurd (geN c10 (by omega)) (by omega)
    · skip
      refine V_aload_n d_fe_doAgain_13 rfl rfl ?_
      refine V_getf d_fe_doAgain_14 fl_fe_262 Ix1.1 rfl ?_
      refine V_iload_n d_fe_doAgain_17 rfl rfl ?_
      refine V_callV (N := al_get) d_fe_doAgain_18 ml_fe_349 mdf_al_get wi_al_get wz_al_get (sp_al_get G hA hy) hAo ⟨_, rfl, rfl⟩ rfl rfl (by decide) (by decide) (Nat.le_of_ble_eq_true rfl) rfl rfl (kR fun r18 h18 ⟨e18, f18⟩ => ?_)
      subst e18 f18
      refine V_castY d_fe_doAgain_21 q5.1 (show vwCl[1]? = some _ from rfl) kl_fe_336 wo_castable_1 ?_
      refine V_astore_n d_fe_doAgain_24 rfl (by decide) rfl rfl ?_
      dsimp only [List.set]
      refine V_aload_n d_fe_doAgain_25 rfl rfl ?_
      refine V_aload_n d_fe_doAgain_26 rfl rfl ?_
      refine V_getf d_fe_doAgain_27 fl_fe_352 q5.1 rfl ?_
      refine V_aload_n d_fe_doAgain_30 rfl rfl ?_
      refine V_getf d_fe_doAgain_31 fl_fe_355 q5.1 rfl ?_
      refine V_aload_n d_fe_doAgain_34 rfl rfl ?_
      refine V_getf d_fe_doAgain_35 fl_fe_361 q5.1 rfl ?_
      refine V_callV (N := fe_put) d_fe_doAgain_38 ml_fe_345 mdf_fe_put wi_fe_put wz_fe_put (sp_fe_put G R hm ivs ivo ivw ivf ivv q1 q2 q3 ln q7.2) (by first | assumption | exact X.1 | exact hu_self _ _ _ | (simp (disch := first | assumption | (apply Ne.symm; assumption)) only [hu_self, hu_ne]; assumption)) ⟨_, rfl, rfl⟩ rfl rfl (by decide) (by decide) (Nat.le_of_ble_eq_true rfl) rfl rfl (kN fun h38 ⟨p1, p2⟩ => ?_)
      have R1 : RB g h38 (goM s 19 (lo + k) o' f') := p1 _ _ pm (ntM_ok _ _ _ _ _)
      have p2' := p2.mo (E := PutD) (fun r hr => by unfold PutD at hr; omega)
      refine V_iinc (v := _) d_fe_doAgain_41 rfl rfl (by decide) rfl rfl ?_
      dsimp only [List.set]
      refine V_goto d_fe_doAgain_44 ?_
      rw [show Int32.ofInt 1 = 1 from rfl, nI_1]
      refine (ih (k + 1) (goM s 19 (lo + k) o' f') h38 _ (by omega) R1 (J0.go q1 q2 z6) (fun i y hy => (he i y hy).go p2' d1) (fun i hi => (hok i hi).go) (S.tr p2')).mono (fun v h' hp => ?_)
      refine ⟨hp.1, fun t ht => ?_, hp.2.2⟩
      obtain ⟨t1, hg, hch⟩ := ht
      have et := hg.eq (o := o') (f := f') ivs ivo q1 q2 q4
      subst et
      exact hp.2.1 t hch
theorem sp_fe_doAgain (G : Gk) {g : Gm} {h : Hp} {s : Mem} {x a lo : Nat} {es : List Nat} (R : RB g h s) (J : Jv s) (Ix : Im g h x (3, [.ref a])) (La : ImL G g h a es) (h5 : es.length < 1000) (he : ∀ i y, es[i]? = some y → EdR g h s (lo + i) y) (hok : ∀ i, i < es.length → EdOK s (lo + i)) : Ct G fe_doAgain [.ref (g.2 2), .ref x] h (pN fun h' => (∀ t, ReE es.length lo s t → RB g h' t) ∧ Stq g h PutD g h') := by
  refine Ct.ofL (M := fe_doAgain) (lv := [some (.ref (g.2 2)), some (.ref x), none, none]) mdf_fe_doAgain rfl (Nat.le_of_ble_eq_true rfl) rfl ?_
  refine V_iconst (v := 0) d_fe_doAgain_0 (by decide) ?_
  refine V_istore_n d_fe_doAgain_1 rfl (by decide) rfl rfl ?_
  dsimp only [List.set]
  exact lp_again G Ix La h5 es.length 0 s h none (by omega) R J he hok (Stq.rf _ _ _)
