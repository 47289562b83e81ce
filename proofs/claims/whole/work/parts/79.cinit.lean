/-! the class's constructor -/
abbrev L3 : Type := List (Nat × Nat × (Nat × List Value))
def In2 (h0 : Hp) (x : Nat) (g : Gm) (h : Hp) (fs : List Value) (L : L3) : Prop := (g.2 2 = x ∧ h x = some (12, fs) ∧ g.1 x = 2) ∧ (∀ e, e ∈ L → g.2 e.1 = e.2.1 ∧ h e.2.1 = some e.2.2 ∧ g.1 e.2.1 = e.1 ∧ e.1 ≠ 2) ∧ ∀ a, a ≠ x → h0 a ≠ none → h a = h0 a ∧ g.1 a = 0
theorem In2.new {h0 h : Hp} {x q r : Nat} {g : Gm} {fs : List Value} {L : L3} (I : In2 h0 x g h fs L) (hq : h q = none) (c : Nat × List Value) (h2 : r ≠ 2) (hr : ∀ e, e ∈ L → e.1 ≠ r) : In2 h0 x (ug g q r) (hu h q c) fs ((r, q, c) :: L) := by
  obtain ⟨⟨i1, i2, i3⟩, i4, i5⟩ := I
  have nx : x ≠ q := fun e => by rw [← e, i2] at hq; cases hq
  refine ⟨⟨by rw [ug_2n _ _ (Ne.symm h2)]; exact i1, by rw [hu_ne _ _ nx]; exact i2, by rw [ug_1n _ _ nx]; exact i3⟩, fun e he => ?_, fun a ha hn => ?_⟩
  · rcases List.mem_cons.mp he with rfl | he
    · exact ⟨ug_2 _ _ _, hu_self _ _ _, ug_1 _ _ _, h2⟩
    · obtain ⟨j1, j2, j3, j4⟩ := i4 e he
      have ne : e.2.1 ≠ q := fun z => by rw [z, hq] at j2; cases j2
      exact ⟨by rw [ug_2n _ _ (hr e he)]; exact j1, by rw [hu_ne _ _ ne]; exact j2, by rw [ug_1n _ _ ne]; exact j3, j4⟩
  · obtain ⟨j1, j2⟩ := i5 a ha hn
    have ne : a ≠ q := fun z => by rw [z, hq] at j1; exact hn (by rw [z]; exact j1.symm)
    exact ⟨by rw [hu_ne _ _ ne]; exact j1, by rw [ug_1n _ _ ne]; exact j2⟩
theorem nin {L : L3} {r : Nat} (h : (L.map (fun e => e.1)).all (fun z => z != r) = true) : ∀ e, e ∈ L → e.1 ≠ r := by
  intro e he z
  have := List.all_eq_true.mp h e.1 (List.mem_map.mpr ⟨e, he, rfl⟩)
  rw [z] at this
  simp at this
theorem In2.put {h0 h : Hp} {x : Nat} {g : Gm} {fs : List Value} {L : L3} (I : In2 h0 x g h fs L) (fs' : List Value) : In2 h0 x g (hu h x (12, fs')) fs' L := by
  obtain ⟨⟨i1, i2, i3⟩, i4, i5⟩ := I
  refine ⟨⟨i1, hu_self _ _ _, i3⟩, fun e he => ?_, fun a ha hn => ?_⟩
  · obtain ⟨j1, j2, j3, j4⟩ := i4 e he
    have ne : e.2.1 ≠ x := fun z => by rw [z, i3] at j3; exact j4 j3.symm
    exact ⟨j1, by rw [hu_ne _ _ ne]; exact j2, j3, j4⟩
  · rw [hu_ne _ _ ha]; exact i5 a ha hn
theorem hu_o {h : Hp} {q : Nat} {d c : Nat × List Value} : hu (hu h q d) q c = hu h q c := by
  funext z; unfold hu; split <;> rfl
theorem hu_c {h : Hp} {a b : Nat} (c d : Nat × List Value) (n : a ≠ b) : hu (hu h a c) b d = hu (hu h b d) a c := by
  funext z
  unfold hu
  by_cases e1 : z = a
  · by_cases e2 : z = b
    · exact absurd (e1.symm.trans e2) n
    · rw [if_neg e2, if_pos e1, if_pos e1]
  · by_cases e2 : z = b
    · rw [if_pos e2, if_neg e1, if_pos e2]
    · rw [if_neg e2, if_neg e1, if_neg e1, if_neg e2]
/-- a made object with two cells of its own -/
theorem In2.new3 {h0 h : Hp} {x q a b r ra rb : Nat} {g : Gm} {fs : List Value} {L : L3} {d c ca cb : Nat × List Value} (I : In2 h0 x g h fs L) (hq : h q = none) (ha : hu h q d a = none) (hb : hu h q d b = none) (nab : a ≠ b) (h2 : r ≠ 2 ∧ ra ≠ 2 ∧ rb ≠ 2 ∧ r ≠ ra ∧ r ≠ rb ∧ ra ≠ rb) (hr : ∀ e, e ∈ L → e.1 ≠ r ∧ e.1 ≠ ra ∧ e.1 ≠ rb) : ∃ g', In2 h0 x g' (hu (hu (hu (hu h q d) a ca) b cb) q c) fs ((r, q, c) :: (rb, b, cb) :: (ra, a, ca) :: L) := by
  have na : a ≠ q := fun e => by rw [e, hu_self] at ha; cases ha
  have nb : b ≠ q := fun e => by rw [e, hu_self] at hb; cases hb
  rw [hu_ne _ _ na] at ha
  rw [hu_ne _ _ nb] at hb
  have e : hu (hu (hu (hu h q d) a ca) b cb) q c = hu (hu (hu h a ca) b cb) q c := by
    rw [hu_c d ca (Ne.symm na), hu_c d cb (Ne.symm nb), hu_o]
  rw [e]
  have I1 := I.new ha ca h2.2.1 (fun e he => (hr e he).2.1)
  have I2 := I1.new (q := b) (by rw [hu_ne _ _ (Ne.symm nab)]; exact hb) cb h2.2.2.1 (fun e he => by
    rcases List.mem_cons.mp he with rfl | he
    · exact h2.2.2.2.2.2
    · exact (hr e he).2.2)
  exact ⟨_, I2.new (q := q) (by rw [hu_ne _ _ (Ne.symm nb), hu_ne _ _ (Ne.symm na)]; exact hq) c h2.1 (fun e he => by
    rcases List.mem_cons.mp he with rfl | he
    · exact Ne.symm h2.2.2.2.2.1
    · rcases List.mem_cons.mp he with rfl | he
      · exact Ne.symm h2.2.2.2.1
      · exact (hr e he).1)⟩
theorem In2.new4 {h0 h : Hp} {x q a b k r ra rb rk : Nat} {g : Gm} {fs : List Value} {L : L3} {d c ca cb ck : Nat × List Value} (I : In2 h0 x g h fs L) (hq : h q = none) (ha : hu h q d a = none) (hb : hu h q d b = none) (hk : hu h q d k = none) (nab : a ≠ b) (nak : a ≠ k) (nbk : b ≠ k) (h2 : (r ≠ 2 ∧ ra ≠ 2 ∧ rb ≠ 2 ∧ rk ≠ 2) ∧ r ≠ ra ∧ r ≠ rb ∧ ra ≠ rb ∧ rk ≠ ra ∧ rk ≠ rb ∧ rk ≠ r) (hr : ∀ e, e ∈ L → e.1 ≠ r ∧ e.1 ≠ ra ∧ e.1 ≠ rb ∧ e.1 ≠ rk) : ∃ g', In2 h0 x g' (hu (hu (hu (hu (hu h q d) a ca) b cb) k ck) q c) fs ((r, q, c) :: (rk, k, ck) :: (rb, b, cb) :: (ra, a, ca) :: L) := by
  have na : a ≠ q := fun e => by rw [e, hu_self] at ha; cases ha
  have nb : b ≠ q := fun e => by rw [e, hu_self] at hb; cases hb
  have nk : k ≠ q := fun e => by rw [e, hu_self] at hk; cases hk
  rw [hu_ne _ _ na] at ha
  rw [hu_ne _ _ nb] at hb
  rw [hu_ne _ _ nk] at hk
  have e : hu (hu (hu (hu (hu h q d) a ca) b cb) k ck) q c = hu (hu (hu (hu h a ca) b cb) k ck) q c := by
    rw [hu_c d ca (Ne.symm na), hu_c d cb (Ne.symm nb), hu_c d ck (Ne.symm nk), hu_o]
  rw [e]
  have I1 := I.new ha ca h2.1.2.1 (fun e he => (hr e he).2.1)
  have I2 := I1.new (q := b) (by rw [hu_ne _ _ (Ne.symm nab)]; exact hb) cb h2.1.2.2.1 (fun e he => by
    rcases List.mem_cons.mp he with rfl | he
    · exact h2.2.2.2.1
    · exact (hr e he).2.2.1)
  have I3 := I2.new (q := k) (by rw [hu_ne _ _ (Ne.symm nbk), hu_ne _ _ (Ne.symm nak)]; exact hk) ck h2.1.2.2.2 (fun e he => by
    rcases List.mem_cons.mp he with rfl | he
    · exact Ne.symm h2.2.2.2.2.2.1
    · rcases List.mem_cons.mp he with rfl | he
      · exact Ne.symm h2.2.2.2.2.1
      · exact (hr e he).2.2.2)
  exact ⟨_, I3.new (q := q) (by rw [hu_ne _ _ (Ne.symm nk), hu_ne _ _ (Ne.symm nb), hu_ne _ _ (Ne.symm na)]; exact hq) c h2.1.1 (fun e he => by
    rcases List.mem_cons.mp he with rfl | he
    · exact h2.2.2.2.2.2.2
    · rcases List.mem_cons.mp he with rfl | he
      · exact Ne.symm h2.2.2.1
      · rcases List.mem_cons.mp he with rfl | he
        · exact Ne.symm h2.2.1
        · exact (hr e he).1)⟩
theorem In2.z {G : Gk} {h0 h : Hp} {x : Nat} {g : Gm} {fs : List Value} {L : L3} (I : In2 h0 x g h fs L) (hx : h0 x = some (12, dfl 12)) (hz : Zr G h0) : ZG G g h := by
  have n1 : G.2.2.2.1 ≠ x := fun e => by rw [← e, hz.1] at hx; cases hx
  have n2 : G.2.2.1 ≠ x := fun e => by rw [← e, hz.2] at hx; cases hx
  have a := I.2.2 _ n1 (by rw [hz.1]; simp)
  have b := I.2.2 _ n2 (by rw [hz.2]; simp)
  exact ⟨⟨by rw [a.1]; exact hz.1, by rw [b.1]; exact hz.2⟩, a.2, b.2⟩
theorem In2.cl {h0 h : Hp} {x : Nat} {g : Gm} {fs : List Value} {L : L3} (I : In2 h0 x g h fs L) {r q : Nat} {c : Nat × List Value} (i : Nat) (hi : L[i]? = some (r, q, c)) : g.2 r = q ∧ Cl g h r c := by
  obtain ⟨j1, j2, j3, _⟩ := I.2.1 _ (List.mem_of_getElem? hi)
  exact ⟨j1, by unfold Cl; rw [show g.2 r = q from j1]; exact ⟨j2, j3⟩⟩
theorem In2.fin {G : Gk} {h0 h : Hp} {x : Nat} {g : Gm} {q7 q16 q25 q34 q41 q52 q63 q74 q85 q98 qd qu qr qp ql qq qf qs qt qv qw : Nat} (I : In2 h0 x g h [.ref q7, .int 0, .ref q16, .int 0, .ref q25, .int 0, .ref q34, .int 0, .ref q41, .ref q52, .ref q63, .ref q74, .ref q85, .ref q98] [(7, q98, (20, List.replicate 8 (.int 0))), (17, q85, (9, [.ref qv, .ref qw, .int 0])), (21, qw, (20, arrL 36 (fun _ => 0))), (19, qv, (20, arrL 36 (fun _ => 0))), (16, q74, (9, [.ref qs, .ref qt, .int 0])), (20, qt, (20, arrL 36 (fun _ => 0))), (18, qs, (20, arrL 36 (fun _ => 0))), (12, q63, (5, [.ref ql, .ref qq, .ref qf, .int 0])), (15, qf, (20, arrL 60 (fun _ => 0))), (14, qq, (20, arrL 60 (fun _ => 0))), (13, ql, (20, arrL 60 (fun _ => 0))), (9, q52, (7, [.ref qr, .ref qp, .int 0])), (11, qp, (20, arrL 60 (fun _ => 0))), (10, qr, (20, arrL 60 (fun _ => 0))), (8, q41, (4, [.ref qd, .ref qu, .null])), (24, qu, (0, [.int 0, .ref G.2.2.1, .int 0])), (22, qd, (0, [.int 0, .ref G.2.2.1, .int 0])), (6, q34, (26, List.replicate 10 .null)), (5, q25, (23, List.replicate 16 .null)), (4, q16, (25, List.replicate 60 .null)), (3, q7, (24, List.replicate 10 .null))]) (hx : h0 x = some (12, dfl 12)) (hz : Zr G h0) : RC G g h s0M := by
  obtain ⟨e7, c7⟩ := I.cl 0 rfl
  obtain ⟨e17, c17⟩ := I.cl 1 rfl
  obtain ⟨e21, c21⟩ := I.cl 2 rfl
  obtain ⟨e19, c19⟩ := I.cl 3 rfl
  obtain ⟨e16, c16⟩ := I.cl 4 rfl
  obtain ⟨e20, c20⟩ := I.cl 5 rfl
  obtain ⟨e18, c18⟩ := I.cl 6 rfl
  obtain ⟨e12, c12⟩ := I.cl 7 rfl
  obtain ⟨e15, c15⟩ := I.cl 8 rfl
  obtain ⟨e14, c14⟩ := I.cl 9 rfl
  obtain ⟨e13, c13⟩ := I.cl 10 rfl
  obtain ⟨e9, c9⟩ := I.cl 11 rfl
  obtain ⟨e11, c11⟩ := I.cl 12 rfl
  obtain ⟨e10, c10⟩ := I.cl 13 rfl
  obtain ⟨e8, c8⟩ := I.cl 14 rfl
  obtain ⟨e24, c24⟩ := I.cl 15 rfl
  obtain ⟨e22, c22⟩ := I.cl 16 rfl
  obtain ⟨e6, c6⟩ := I.cl 17 rfl
  obtain ⟨e5, c5⟩ := I.cl 18 rfl
  obtain ⟨e4, c4⟩ := I.cl 19 rfl
  obtain ⟨e3, c3⟩ := I.cl 20 rfl
  have hZ := I.z hx hz
  obtain ⟨⟨i1, i2, i3⟩, _, _⟩ := I
  refine ⟨⟨⟨by rw [i1, i2, e3, e4, e5, e6, e8, e9, e12, e16, e17, e7]; rfl, by rw [i1]; exact i3⟩, ⟨_, List.length_replicate, c3, fun i hi => absurd hi (Nat.not_lt_zero _)⟩, ⟨_, List.length_replicate, c4, fun i hi => absurd hi (Nat.not_lt_zero _)⟩, ⟨_, List.length_replicate, c5, fun i hi => absurd hi (Nat.not_lt_zero _)⟩, ⟨_, List.length_replicate, c6, fun i hi => absurd hi (Nat.not_lt_zero _)⟩, ⟨(fun _ => 0), by rw [← arrL_rep]; exact c7⟩, ⟨(0, (fun _ => 0), (fun _ => 0)), ?_, c10, c11⟩, ⟨(0, (fun _ => 0), (fun _ => 0), (fun _ => 0)), ?_, c13, c14, c15⟩, ⟨0, (fun _ => 0), (fun _ => 0), ?_, c18, c20⟩, ⟨0, (fun _ => 0), (fun _ => 0), ?_, c19, c21⟩⟩, hZ, [], [], .null, ?_, ⟨G.2.2.1, 0, 0, c22, Nat.le_refl _, by decide, Or.inr ⟨rfl, rfl⟩⟩, ⟨G.2.2.1, 0, 0, c24, Nat.le_refl _, by decide, Or.inr ⟨rfl, rfl⟩⟩, rfl, rfl, fun k z hk => (by cases hk), fun k z hk => (by cases hk), Or.inl ⟨rfl, rfl⟩⟩
  · (rw [e10, e11]; exact c9)
  · (rw [e13, e14, e15]; exact c12)
  · (rw [e18, e20]; exact c16)
  · (rw [e19, e21]; exact c17)
  · (rw [e22, e24]; exact c8)
theorem sp_fe_init (G : Gk) {h : Hp} {x : Nat} (hx : h x = some (12, dfl 12)) (hz : Zr G h) : Ct G fe_init [.ref x] h (pN fun h' => ∃ g : Gm, g.2 2 = x ∧ RC G g h' s0M ∧ ∀ a, a ≠ x → h a ≠ none → h' a = h a ∧ g.1 a = 0) := by
  have I0 : In2 h x (ug (fun _ => 0, fun _ => 0) x 2) h (dfl 12) [] := ⟨⟨ug_2 _ _ _, hx, ug_1 _ _ _⟩, fun e he => (by cases he), fun a ha _ => ⟨rfl, ug_1n _ _ ha⟩⟩
  refine Ct.ofL (M := fe_init) (lv := [some (.ref x)]) mdf_fe_init rfl (Nat.le_of_ble_eq_true rfl) rfl ?_
  refine V.need (cr := 0 + 1 + 2 + 1 + 2 + 1 + 3 + 1 + 2 + 1 + 2 + 1 + 1 + 1 + 1 + 1) (sr := 0 + 8 + 72 + 3 + 72 + 3 + 180 + 4 + 120 + 3 + 6 + 3 + 10 + 16 + 60 + 10) ?_ (by decide) (by decide)
  refine V_aload_n d_fe_init_0 rfl rfl ?_
  refine V_objinit d_fe_init_1 ml_fe_3 (by decide) (Nat.le_of_ble_eq_true rfl) ?_
  refine V_aload_n d_fe_init_4 rfl rfl ?_
  refine V_bipush (v := 10) d_fe_init_5 (by decide) ?_
  refine V_anew (M := fe_init) 10 d_fe_init_7 an_fe_9 rfl (by decide) (fun q7 hq7 => ?_)
  have I7 := I0.new hq7 (r := 3) (24, List.replicate 10 .null) (by decide) (fun e he => by cases he)
  refine V_putF d_fe_init_10 fp_fe_11 rfl rfl rfl I7.1.2.1 ?_
  have I10 := I7.put [.ref q7, .int 0, .null, .int 0, .null, .int 0, .null, .int 0, .null, .null, .null, .null, .null, .null]
  change V G fe_init _ (hu _ x (12, [.ref q7, .int 0, .null, .int 0, .null, .int 0, .null, .int 0, .null, .null, .null, .null, .null, .null])) _ _ _ _ _
  refine V_aload_n d_fe_init_13 rfl rfl ?_
  refine V_bipush (v := 60) d_fe_init_14 (by decide) ?_
  refine V_anew (M := fe_init) 60 d_fe_init_16 an_fe_15 rfl (by decide) (fun q16 hq16 => ?_)
  have I16 := I10.new hq16 (r := 4) (25, List.replicate 60 .null) (by decide) (fun e he => nin (by rfl) e he)
  refine V_putF d_fe_init_19 fp_fe_17 rfl rfl rfl I16.1.2.1 ?_
  have I19 := I16.put [.ref q7, .int 0, .ref q16, .int 0, .null, .int 0, .null, .int 0, .null, .null, .null, .null, .null, .null]
  refine V_aload_n d_fe_init_22 rfl rfl ?_
  refine V_bipush (v := 16) d_fe_init_23 (by decide) ?_
  refine V_anew (M := fe_init) 16 d_fe_init_25 an_fe_21 rfl (by decide) (fun q25 hq25 => ?_)
  have I25 := I19.new hq25 (r := 5) (23, List.replicate 16 .null) (by decide) (fun e he => nin (by rfl) e he)
  refine V_putF d_fe_init_28 fp_fe_23 rfl rfl rfl I25.1.2.1 ?_
  have I28 := I25.put [.ref q7, .int 0, .ref q16, .int 0, .ref q25, .int 0, .null, .int 0, .null, .null, .null, .null, .null, .null]
  refine V_aload_n d_fe_init_31 rfl rfl ?_
  refine V_bipush (v := 10) d_fe_init_32 (by decide) ?_
  refine V_anew (M := fe_init) 10 d_fe_init_34 an_fe_27 rfl (by decide) (fun q34 hq34 => ?_)
  have I34 := I28.new hq34 (r := 6) (26, List.replicate 10 .null) (by decide) (fun e he => nin (by rfl) e he)
  refine V_putF d_fe_init_37 fp_fe_29 rfl rfl rfl I34.1.2.1 ?_
  have I37 := I34.put [.ref q7, .int 0, .ref q16, .int 0, .ref q25, .int 0, .ref q34, .int 0, .null, .null, .null, .null, .null, .null]
  refine V_aload_n d_fe_init_40 rfl rfl ?_
  refine V_new (M := fe_init) d_fe_init_41 nw_fe_33 (fun q41 hq41 => ?_)
  refine V_dup d_fe_init_44 rfl ?_
  refine V_callN (N := hi_init) d_fe_init_45 ml_fe_35 mdf_hi_init wi_hi_init rfl rfl (sp_hi_init G ((I37.z hx hz).1.put _ hq41) (hu_self _ _ _)) rfl rfl (by decide) (by decide) (Nat.le_of_ble_eq_true rfl) rfl rfl (kN fun h45 ⟨qd, qu, y1, y2, y3, y4⟩ => ?_)
  subst y4
  obtain ⟨g45, I45⟩ := I37.new3 (r := 8) (ra := 22) (rb := 24) (ca := (0, [.int 0, .ref G.2.2.1, .int 0])) (cb := (0, [.int 0, .ref G.2.2.1, .int 0])) (c := (4, [.ref qd, .ref qu, .null])) hq41 y1 y2 y3 (by decide) (fun e he => ⟨nin (by rfl) e he, nin (by rfl) e he, nin (by rfl) e he⟩)
  refine V_putF d_fe_init_48 fp_fe_36 rfl rfl rfl I45.1.2.1 ?_
  have I48 := I45.put [.ref q7, .int 0, .ref q16, .int 0, .ref q25, .int 0, .ref q34, .int 0, .ref q41, .null, .null, .null, .null, .null]
  refine V_aload_n d_fe_init_51 rfl rfl ?_
  refine V_new (M := fe_init) d_fe_init_52 nw_fe_40 (fun q52 hq52 => ?_)
  refine V_dup d_fe_init_55 rfl ?_
  refine V_callN (N := re_init) d_fe_init_56 ml_fe_42 mdf_re_init wi_re_init rfl rfl (sp_re_init G (hu_self _ _ _)) rfl rfl (by decide) (by decide) (Nat.le_of_ble_eq_true rfl) rfl rfl (kN fun h56 ⟨qr, qp, y1, y2, y3, y4⟩ => ?_)
  subst y4
  obtain ⟨g56, I56⟩ := I48.new3 (r := 9) (ra := 10) (rb := 11) (ca := (20, arrL 60 (fun _ => 0))) (cb := (20, arrL 60 (fun _ => 0))) (c := (7, [.ref qr, .ref qp, .int 0])) hq52 y1 y2 y3 (by decide) (fun e he => ⟨nin (by rfl) e he, nin (by rfl) e he, nin (by rfl) e he⟩)
  refine V_putF d_fe_init_59 fp_fe_43 rfl rfl rfl I56.1.2.1 ?_
  have I59 := I56.put [.ref q7, .int 0, .ref q16, .int 0, .ref q25, .int 0, .ref q34, .int 0, .ref q41, .ref q52, .null, .null, .null, .null]
  refine V_aload_n d_fe_init_62 rfl rfl ?_
  refine V_new (M := fe_init) d_fe_init_63 nw_fe_47 (fun q63 hq63 => ?_)
  refine V_dup d_fe_init_66 rfl ?_
  refine V_callN (N := pa_init) d_fe_init_67 ml_fe_49 mdf_pa_init wi_pa_init rfl rfl (sp_pa_init G (hu_self _ _ _)) rfl rfl (by decide) (by decide) (Nat.le_of_ble_eq_true rfl) rfl rfl (kN fun h67 ⟨ql, qq, qf, y1, y2, y3, y4, y5, y6, y7⟩ => ?_)
  subst y7
  obtain ⟨g67, I67⟩ := I59.new4 (r := 12) (ra := 13) (rb := 14) (rk := 15) (ca := (20, arrL 60 (fun _ => 0))) (cb := (20, arrL 60 (fun _ => 0))) (ck := (20, arrL 60 (fun _ => 0))) (c := (5, [.ref ql, .ref qq, .ref qf, .int 0])) hq63 y1 y2 y3 y4 y5 y6 (by decide) (fun e he => ⟨nin (by rfl) e he, nin (by rfl) e he, nin (by rfl) e he, nin (by rfl) e he⟩)
  refine V_putF d_fe_init_70 fp_fe_50 rfl rfl rfl I67.1.2.1 ?_
  have I70 := I67.put [.ref q7, .int 0, .ref q16, .int 0, .ref q25, .int 0, .ref q34, .int 0, .ref q41, .ref q52, .ref q63, .null, .null, .null]
  refine V_aload_n d_fe_init_73 rfl rfl ?_
  refine V_new (M := fe_init) d_fe_init_74 nw_fe_54 (fun q74 hq74 => ?_)
  refine V_dup d_fe_init_77 rfl ?_
  refine V_callN (N := so_init) d_fe_init_78 ml_fe_56 mdf_so_init wi_so_init rfl rfl (sp_so_init G (hu_self _ _ _)) rfl rfl (by decide) (by decide) (Nat.le_of_ble_eq_true rfl) rfl rfl (kN fun h78 ⟨qs, qt, y1, y2, y3, y4⟩ => ?_)
  subst y4
  obtain ⟨g78, I78⟩ := I70.new3 (r := 16) (ra := 18) (rb := 20) (ca := (20, arrL 36 (fun _ => 0))) (cb := (20, arrL 36 (fun _ => 0))) (c := (9, [.ref qs, .ref qt, .int 0])) hq74 y1 y2 y3 (by decide) (fun e he => ⟨nin (by rfl) e he, nin (by rfl) e he, nin (by rfl) e he⟩)
  refine V_putF d_fe_init_81 fp_fe_57 rfl rfl rfl I78.1.2.1 ?_
  have I81 := I78.put [.ref q7, .int 0, .ref q16, .int 0, .ref q25, .int 0, .ref q34, .int 0, .ref q41, .ref q52, .ref q63, .ref q74, .null, .null]
  refine V_aload_n d_fe_init_84 rfl rfl ?_
  refine V_new (M := fe_init) d_fe_init_85 nw_fe_54 (fun q85 hq85 => ?_)
  refine V_dup d_fe_init_88 rfl ?_
  refine V_callN (N := so_init) d_fe_init_89 ml_fe_56 mdf_so_init wi_so_init rfl rfl (sp_so_init G (hu_self _ _ _)) rfl rfl (by decide) (by decide) (Nat.le_of_ble_eq_true rfl) rfl rfl (kN fun h89 ⟨qv, qw, y1, y2, y3, y4⟩ => ?_)
  subst y4
  obtain ⟨g89, I89⟩ := I81.new3 (r := 17) (ra := 19) (rb := 21) (ca := (20, arrL 36 (fun _ => 0))) (cb := (20, arrL 36 (fun _ => 0))) (c := (9, [.ref qv, .ref qw, .int 0])) hq85 y1 y2 y3 (by decide) (fun e he => ⟨nin (by rfl) e he, nin (by rfl) e he, nin (by rfl) e he⟩)
  refine V_putF d_fe_init_92 fp_fe_61 rfl rfl rfl I89.1.2.1 ?_
  have I92 := I89.put [.ref q7, .int 0, .ref q16, .int 0, .ref q25, .int 0, .ref q34, .int 0, .ref q41, .ref q52, .ref q63, .ref q74, .ref q85, .null]
  refine V_aload_n d_fe_init_95 rfl rfl ?_
  refine V_bipush (v := 8) d_fe_init_96 (by decide) ?_
  refine V_newI (M := fe_init) 8 d_fe_init_98 rfl (by decide) (fun q98 hq98 => ?_)
  have I98 := I92.new hq98 (r := 7) (20, List.replicate 8 (.int 0)) (by decide) (fun e he => nin (by rfl) e he)
  refine V_putF d_fe_init_100 fp_fe_64 rfl rfl rfl I98.1.2.1 ?_
  have I := I98.put [.ref q7, .int 0, .ref q16, .int 0, .ref q25, .int 0, .ref q34, .int 0, .ref q41, .ref q52, .ref q63, .ref q74, .ref q85, .ref q98]
  refine V_return d_fe_init_103 rfl ?_
  exact ⟨rfl, _, I.1.1, I.fin hx hz, I.2.2⟩
