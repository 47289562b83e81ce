/-! hasRoom, keep -/
theorem sp_hi_hasRoom (G : Gk) {g : Gm} {h : Hp} {s : Mem} (H : PH G g h s) (h512 : gsz s < 512) : Ct G hi_hasRoom [.ref (g.2 8)] h (pI fun r h' => h = h' ∧ r = 1) := by
  obtain ⟨hz, dn, un, v, q1, q2, q3, q4, q5, q6, q7, q8⟩ := H
  rcases q8 with ⟨z1, rfl⟩ | ⟨z1, x, es, rfl, y2, y3, y4, y5⟩
  · skip
    refine Ct.ofL (M := hi_hasRoom) (lv := [some (.ref (g.2 8))]) mdf_hi_hasRoom rfl (Nat.le_of_ble_eq_true rfl) rfl ?_
    refine V_aload_n d_hi_hasRoom_0 rfl rfl ?_
    refine V_getf d_hi_hasRoom_1 fl_hi_21 q1.1 rfl ?_
    refine V_ifnullN d_hi_hasRoom_4 ?_
    refine V_iconst (v := 1) d_hi_hasRoom_23 (by decide) ?_
    refine V_goto d_hi_hasRoom_24 ?_
    refine V_zreturn d_hi_hasRoom_28 rfl (by first | exact Or.inl rfl | exact Or.inr rfl) ?_
    exact ⟨_, rfl, rfl, rfl⟩
  · skip
    refine Ct.ofL (M := hi_hasRoom) (lv := [some (.ref (g.2 8))]) mdf_hi_hasRoom rfl (Nat.le_of_ble_eq_true rfl) rfl ?_
    obtain ⟨mc, d, hd⟩ := y3.o
    refine V_aload_n d_hi_hasRoom_0 rfl rfl ?_
    refine V_getf d_hi_hasRoom_1 fl_hi_21 q1.1 rfl ?_
    refine V_ifnull d_hi_hasRoom_4 ?_
    refine V_aload_n d_hi_hasRoom_7 rfl rfl ?_
    refine V_getf d_hi_hasRoom_8 fl_hi_21 q1.1 rfl ?_
    refine V_getf d_hi_hasRoom_11 fl_hi_25 y2.1 rfl ?_
    refine V_callV (N := al_size) d_hi_hasRoom_14 ml_hi_30 mdf_al_size wi_al_size wz_al_size (sp_ls_size G y3) hd ⟨_, rfl, rfl⟩ rfl rfl (by decide) (by decide) (Nat.le_of_ble_eq_true rfl) rfl rfl (kI fun r14 h14 ⟨e14, f14⟩ => ?_)
    subst e14 f14
    rw [y4]
    refine V_sipush (v := 512) d_hi_hasRoom_17 (by decide) ?_
    refine V_icmp_ge d_hi_hasRoom_20 (fun c20 => ?_) (fun c20 => ?_)
    · skip
      exact absurd (geN (b := 512) c20 (by omega)) (by omega)
    · skip
      refine V_iconst (v := 1) d_hi_hasRoom_23 (by decide) ?_
      refine V_goto d_hi_hasRoom_24 ?_
      refine V_zreturn d_hi_hasRoom_28 rfl (by first | exact Or.inl rfl | exact Or.inr rfl) ?_
      exact ⟨_, rfl, rfl, rfl⟩
/-- the history once an edit x has been put down, ahead of its being made -/
def Kept (G : Gk) (g : Gm) (h : Hp) (s : Mem) (x : Nat) : Prop := ZG G g h ∧ ∃ dn v, Cl g h 8 (4, [.ref (g.2 22), .ref (g.2 24), v]) ∧ LsR G g h 24 25 [] ∧ dn.length = nD s ∧ (∀ k y, dn[k]? = some y → GrR G g h s y (enB s k) (en s k)) ∧
  ((s.1 23 ≠ 0 ∧ LsR G g h 22 23 dn ∧ ∃ y es, v = .ref y ∧ Im g h y (3, [.ref (g.2 26)]) ∧ LsR G g h 26 27 (es ++ [x]) ∧ es.length = gsz s ∧ ∀ i z, es[i]? = some z → EdR g h s (gF s + i) z) ∨
   (s.1 23 = 0 ∧ v = .null ∧ ∃ y a, Im g h y (3, [.ref a]) ∧ ImL G g h a [x] ∧ LsR G g h 22 23 (pshL dn y)))
/-- the history's own roles -/
def hiD (r : Nat) : Prop := r < 22 ∨ 27 < r
theorem GrR.g1 {G : Gk} {g : Gm} {h : Hp} {s : Mem} {x lo hi : Nat} (H : GrR G g h s x lo hi) : g.1 x = 1 := by
  obtain ⟨a, es, q1, _⟩ := H
  exact q1.2
theorem same17 (s : Mem) (lo i : Nat) : s.2 17 (lo + i) = s.2 17 (lo + i) ∧ ∀ k, k < 7 → s.2 18 (7 * (lo + i) + k) = s.2 18 (7 * (lo + i) + k) ∧ s.2 19 (7 * (lo + i) + k) = s.2 19 (7 * (lo + i) + k) := ⟨rfl, fun _ _ => ⟨rfl, rfl⟩⟩
theorem GrR.st {G : Gk} {g g' : Gm} {h h' : Hp} {D : Nat → Prop} {s : Mem} {x lo hi : Nat} (H : GrR G g h s x lo hi) (S : Stq g h D g' h') (h1 : D 1) : GrR G g' h' s x lo hi := H.mv S h1 (ObE.rf s) rfl (fun i _ => same17 s lo i)
theorem EdR.st {g g' : Gm} {h h' : Hp} {D : Nat → Prop} {s : Mem} {e a : Nat} (H : EdR g h s e a) (S : Stq g h D g' h') (h1 : D 1) : EdR g' h' s e a := H.mv S h1 (ObE.rf s) rfl (fun _ _ => ⟨rfl, rfl⟩)
/-- a new list with one edit in it, in a new group -/
theorem new_grp {G : Gk} {g : Gm} {h1 h2 h3 : Hp} {q q2 x : Nat} (hz : ZG G g h1) (hq : h1 q = none) (hq2 : h1 q2 = none) (nqq : q ≠ q2) (e2 : h2 = hu (hu h1 q2 (0, [.int 0, .ref G.2.2.1, .int 0])) q (3, [.ref q2])) (hA : AddP G h2 q2 G.2.2.1 0 [] x h3) : ∃ g3 : Gm, Stq g h1 (fun _ => True) g3 h3 ∧ Im g3 h3 q (3, [.ref q2]) ∧ ImL G g3 h3 q2 [x] ∧ g3.2 = g.2 := by
  obtain ⟨d', cap', ⟨⟨mc, k1⟩, k2, k3, k4⟩, k5, k6, k7⟩ := hA
  obtain ⟨z1, z2⟩ := k5.resolve_left (fun z => by omega)
  have k4' : h3 d' = some (27, alV [x] cap') := k4.elim (fun q => q.2) (fun q => by omega)
  have hq_2 : h2 q = some (3, [.ref q2]) := by rw [e2, hu_self]
  have hq2_2 : h2 q2 = some (0, [.int 0, .ref G.2.2.1, .int 0]) := by rw [e2, hu_ne _ _ (Ne.symm nqq), hu_self]
  have nq1 : q ≠ G.2.2.1 := fun z => by rw [z, hz.1.2] at hq; cases hq
  have e1 : h3 q = some (3, [.ref q2]) := by rw [k7 q nqq nq1 (by rw [hq_2]; simp)]; exact hq_2
  have hd1 : h1 d' = none := by
    have a : d' ≠ q := fun z => by rw [z, hq_2] at z1; cases z1
    have b : d' ≠ q2 := fun z => by rw [z, hq2_2] at z1; cases z1
    rw [e2, hu_ne _ _ a, hu_ne _ _ b] at z1
    exact z1
  refine ⟨ui (ui (ui g q) q2) d', ⟨fun a ha _ => ?_, fun _ _ => rfl⟩, ⟨e1, ?_⟩, ⟨d', cap', mc, ⟨k1, ?_⟩, k2, k3, Or.inl ⟨k6, k4', if_pos rfl⟩⟩, rfl⟩
  · have n1 : a ≠ q := fun z => ha (by rw [z]; exact hq)
    have n2 : a ≠ q2 := fun z => ha (by rw [z]; exact hq2)
    have n3 : a ≠ d' := fun z => ha (by rw [z]; exact hd1)
    have e2a : h2 a = h1 a := by rw [e2, hu_ne _ _ n1, hu_ne _ _ n2]
    refine ⟨?_, ?_⟩
    · by_cases z : a = G.2.2.1
      · rw [z, z2, ← z]; exact e2a
      · rw [k7 a n2 z (by rw [e2a]; exact ha)]; exact e2a
    · show (if a = d' then 1 else if a = q2 then 1 else if a = q then 1 else g.1 a) = g.1 a
      rw [if_neg n3, if_neg n2, if_neg n1]
  · show (if q = d' then 1 else if q = q2 then 1 else if q = q then 1 else g.1 q) = 1
    split
    · rfl
    · exact if_pos rfl
  · show (if q2 = d' then 1 else if q2 = q2 then 1 else if q2 = q then 1 else g.1 q2) = 1
    split
    · rfl
    · rw [if_pos rfl]
theorem sp_hi_keep (G : Gk) {g : Gm} {h : Hp} {s : Mem} (H : PH G g h s) (h512 : gsz s < 512) (h60 : nD s ≤ 60) {x : Nat} {ws : List Value} (ix : Im g h x (1, ws)) : Ct G hi_keep [.ref (g.2 8), .ref x] h (pN fun h' => ∃ g', Kept G g' h' s x ∧ Stq g h hiD g' h' ∧ ∀ r, hiD r → g'.2 r = g.2 r) := by
  obtain ⟨hz, dn, un, v, q1, q2, q3, q4, q5, q6, q7, q8⟩ := H
  obtain ⟨mc, d, hd⟩ := q3.o
  rcases q8 with ⟨z1, rfl⟩ | ⟨z1, y, es, rfl, y2, y3, y4, y5⟩
  · skip
    refine Ct.ofL (M := hi_keep) (lv := [some (.ref (g.2 8)), some (.ref x), none]) mdf_hi_keep rfl (Nat.le_of_ble_eq_true rfl) rfl ?_
    refine V_aload_n d_hi_keep_0 rfl rfl ?_
    refine V_getf d_hi_keep_1 fl_hi_18 q1.1 rfl ?_
    refine V_callV (N := al_clear) d_hi_keep_4 ml_hi_34 mdf_al_clear wi_al_clear wz_al_clear (ls_clear G hz q3) hd ⟨_, rfl, rfl⟩ rfl rfl (by decide) (by decide) (Nat.le_of_ble_eq_true rfl) rfl rfl (kN fun h4 ⟨p1, p2⟩ => ?_)
    have c8 := q1.st p2 (by omega)
    have hz1 := hz.st p2 (by omega)
    refine V_aload_n d_hi_keep_7 rfl rfl ?_
    refine V_getf d_hi_keep_8 fl_hi_21 c8.1 rfl ?_
    refine V_ifnullN d_hi_keep_11 ?_
    refine V.need (cr := (0 + 1 + 1 + 1) + 1) (sr := (0 + 800 + 800 + 3) + 1) ?_ (by decide) (by decide)
    refine V_new (M := hi_keep) d_hi_keep_27 nw_hi_26 (fun q27 hq27 => ?_)
    refine V_dup d_hi_keep_30 rfl ?_
    refine V_callN (N := gr_init) d_hi_keep_31 ml_hi_41 mdf_gr_init wi_gr_init rfl rfl (sp_gr_init G (hz1.1.put _ hq27) (hu_self _ _ _)) rfl rfl (by decide) (by decide) (Nat.le_of_ble_eq_true rfl) rfl rfl (kN fun h31 ⟨q, hq, e31⟩ => ?_)
    have nqq : q27 ≠ q := fun z => by rw [← z, hu_self] at hq; cases hq
    rw [hu_ne _ _ (Ne.symm nqq)] at hq
    have e31' : h31 = hu (hu h4 q (0, [.int 0, .ref G.2.2.1, .int 0])) q27 (3, [.ref q]) := by rw [e31]; funext z; unfold hu; split; rfl; split; rfl; rfl
    have hx4 := ix.st p2 (by omega)
    have hx31 : h31 x = some (1, ws) := by rw [e31', hu_ne _ _ (fne hx4.1 hq27), hu_ne _ _ (fne hx4.1 hq)]; exact hx4.1
    have hg31 : h31 q27 = some (3, [.ref q]) := by rw [e31', hu_self]
    have hl31 : h31 q = some (0, [.int 0, .ref G.2.2.1, .int (nI ([] : List Nat).length)]) := by rw [e31', hu_ne _ _ (Ne.symm nqq), hu_self]; rfl
    have hz31 : Zr G h31 := by rw [e31']; exact ⟨by rw [hu_ne _ _ (fne hz1.1.1 hq27), hu_ne _ _ (fne hz1.1.1 hq)]; exact hz1.1.1, by rw [hu_ne _ _ (fne hz1.1.2 hq27), hu_ne _ _ (fne hz1.1.2 hq)]; exact hz1.1.2⟩
    refine V_astore_n d_hi_keep_34 rfl (by decide) rfl rfl ?_
    dsimp only [List.set]
    refine V_aload_n d_hi_keep_35 rfl rfl ?_
    refine V_getf d_hi_keep_36 fl_hi_25 hg31 rfl ?_
    refine V_aload_n d_hi_keep_39 rfl rfl ?_
    refine V_callV (N := al_add1) d_hi_keep_40 ml_hi_37 mdf_al_add1 wi_al_add1 wz_al_add1 (sp_al_add1 G hz31 (es := []) (a := q) (d := G.2.2.1) (cap := 0) ⟨⟨0, hl31⟩, Nat.le_refl _, by decide, Or.inr ⟨rfl, rfl⟩⟩ (fun e he => by cases he) hx31 (Or.inl rfl) (by decide)) hl31 ⟨_, rfl, rfl⟩ rfl rfl (by decide) (by decide) (Nat.le_of_ble_eq_true rfl) rfl rfl (kI fun r40 h40 ⟨e40, p40⟩ => ?_)
    obtain ⟨g3, S3, I3, L3, e3⟩ := new_grp hz1 hq27 hq nqq e31' p40
    have c83 := c8.st S3 trivial
    have q23 := (q2.st p2 (by omega) (by omega)).st S3 trivial trivial
    have hgr : ∀ k y, dn[k]? = some y → GrR G g3 h40 s y (enB s k) (en s k) := fun k y hk => ((q6 k y hk).st p2 (by omega)).st S3 trivial
    have e8 : g3.2 8 = g.2 8 := by rw [e3]
    refine V_pop d_hi_keep_43 rfl ?_
    refine V_aload_n d_hi_keep_44 rfl rfl ?_
    refine V_aload_n d_hi_keep_45 rfl rfl ?_
    rw [← e8]
    refine V_callV (N := hi_push) d_hi_keep_46 ml_hi_42 mdf_hi_push wi_hi_push wz_hi_push (sp_hi_push G (ws := []) (hz1.st S3 trivial) (by rw [e3]; exact c83) q23 (fun k y hk => (hgr k y hk).o) I3.1 (by omega) ⟨by rw [I3.2]; decide, by rw [I3.2]; decide⟩ (fun k y hk => by rw [(hgr k y hk).g1]; decide)) c83.1 ⟨_, rfl, rfl⟩ rfl rfl (by decide) (by decide) (Nat.le_of_ble_eq_true rfl) rfl rfl (kN fun h46 ⟨g4, p3, p4, p5⟩ => ?_)
    refine V_return d_hi_keep_49 rfl ?_
    have g4r : ∀ r, r ≠ 23 → g4.2 r = g.2 r := fun r hr => by rw [p5 r hr, e3]
    have p4a := p4
    refine ⟨rfl, g4, ⟨(hz1.st S3 trivial).st p4 (by omega), dn, .null, ?_, ((p1.st S3 trivial trivial).st p4 (by omega) (by omega)), q4, fun k y hk => (hgr k y hk).st p4 (by omega), Or.inr ⟨z1, rfl, q27, q, I3.st p4 (by omega), L3.st p4 (by omega), p3⟩⟩, ((p2.mo (fun r hr => by unfold hiD at hr; omega)).tr (S3.mo (fun _ _ => trivial))).tr (p4.mo (fun r hr => by unfold hiD at hr; omega)), fun r hr => g4r r (by unfold hiD at hr; omega)⟩
    rw [g4r 22 (by omega), g4r 24 (by omega)]
    exact c83.st p4 (by omega)
  · skip
    refine Ct.ofL (M := hi_keep) (lv := [some (.ref (g.2 8)), some (.ref x), none]) mdf_hi_keep rfl (Nat.le_of_ble_eq_true rfl) rfl ?_
    obtain ⟨mc2, d2, hd2⟩ := y3.o
    refine V_aload_n d_hi_keep_0 rfl rfl ?_
    refine V_getf d_hi_keep_1 fl_hi_18 q1.1 rfl ?_
    refine V_callV (N := al_clear) d_hi_keep_4 ml_hi_34 mdf_al_clear wi_al_clear wz_al_clear (ls_clear G hz q3) hd ⟨_, rfl, rfl⟩ rfl rfl (by decide) (by decide) (Nat.le_of_ble_eq_true rfl) rfl rfl (kN fun h4 ⟨p1, p2⟩ => ?_)
    have c8 := q1.st p2 (by omega)
    have hz1 := hz.st p2 (by omega)
    have y21 := y2.st p2 (by omega)
    have y31 := y3.st p2 (by omega) (by omega)
    obtain ⟨mc3, d3, hd3⟩ := y31.o
    refine V_aload_n d_hi_keep_7 rfl rfl ?_
    refine V_getf d_hi_keep_8 fl_hi_21 c8.1 rfl ?_
    refine V_ifnull d_hi_keep_11 ?_
    refine V_aload_n d_hi_keep_14 rfl rfl ?_
    refine V_getf d_hi_keep_15 fl_hi_21 c8.1 rfl ?_
    refine V_getf d_hi_keep_18 fl_hi_25 y21.1 rfl ?_
    refine V_aload_n d_hi_keep_21 rfl rfl ?_
    refine V_callV (N := al_add1) d_hi_keep_22 ml_hi_37 mdf_al_add1 wi_al_add1 wz_al_add1 (ls_add G hz1 y31 (by decide) (by decide) (by decide) (eOs_e (fun k z hk => ((y5 k z hk).st p2 (by omega)).o)) (ix.st p2 (by omega)).1 (Or.inl rfl) (by omega)) hd3 ⟨_, rfl, rfl⟩ rfl rfl (by decide) (by decide) (Nat.le_of_ble_eq_true rfl) rfl rfl (kI fun r22 h22 ⟨e22, g', p3, p4, p5⟩ => ?_)
    refine V_pop d_hi_keep_25 rfl ?_
    refine V_return d_hi_keep_26 rfl ?_
    refine ⟨rfl, g', ⟨hz1.st p4 (by omega), dn, .ref y, ?_, p1.st p4 (by omega) (by omega), q4, fun k y hk => ((q6 k y hk).st p2 (by omega)).st p4 (by omega), Or.inl ⟨z1, (q2.st p2 (by omega) (by omega)).st p4 (by omega) (by omega), y, es, rfl, ?_, p3, y4, fun i z hz => ((y5 i z hz).st p2 (by omega)).st p4 (by omega)⟩⟩, (p2.mo (fun r hr => by unfold hiD at hr; omega)).tr (p4.mo (fun r hr => by unfold hiD at hr; omega)), fun r hr => p5 r (by unfold hiD at hr; omega)⟩
    · (rw [p5 22 (by omega), p5 24 (by omega)]; exact c8.st p4 (by omega))
    · (rw [p5 26 (by omega)]; exact y21.st p4 (by omega))
