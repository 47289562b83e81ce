/-! the history: lists with roles, edits, groups -/
def LsR (G : Gk) (g : Gm) (h : Hp) (r rd : Nat) (es : List Nat) : Prop := ∃ d cap mc, Cl g h r (0, [.int mc, .ref d, .int (nI es.length)]) ∧ es.length ≤ cap ∧ cap < 1000 ∧ ((0 < cap ∧ d = g.2 rd ∧ Cl g h rd (27, alV es cap)) ∨ (cap = 0 ∧ d = G.2.2.1))
theorem LsR.al {G : Gk} {g : Gm} {h : Hp} {r rd : Nat} {es : List Nat} (H : LsR G g h r rd es) : ∃ d cap, ALr G h (g.2 r) d es cap ∧ ((0 < cap ∧ d = g.2 rd ∧ Cl g h rd (27, alV es cap)) ∨ (cap = 0 ∧ d = G.2.2.1)) ∧ g.1 (g.2 r) = r := by
  obtain ⟨d, cap, mc, h1, h2, h3, h4⟩ := H
  refine ⟨d, cap, ⟨⟨mc, h1.1⟩, h2, h3, h4.imp (fun q => ⟨q.1, by rw [q.2.1]; exact q.2.2.1⟩) id⟩, h4, h1.2⟩
theorem LsR.st {G : Gk} {g g' : Gm} {h h' : Hp} {D : Nat → Prop} {r rd : Nat} {es : List Nat} (H : LsR G g h r rd es) (S : Stq g h D g' h') (h1 : D r) (h2 : D rd) : LsR G g' h' r rd es := by
  obtain ⟨d, cap, mc, q1, q2, q3, q4⟩ := H
  refine ⟨d, cap, mc, q1.st S h1, q2, q3, q4.imp (fun z => ⟨z.1, ?_, z.2.2.st S h2⟩) id⟩
  rw [S.2 rd h2]
  exact z.2.1
/-- others' cells: the empty array and the statics -/
def ZG (G : Gk) (g : Gm) (h : Hp) : Prop := Zr G h ∧ g.1 G.2.2.2.1 = 0 ∧ g.1 G.2.2.1 = 0
theorem ZG.st {G : Gk} {g g' : Gm} {h h' : Hp} {D : Nat → Prop} (H : ZG G g h) (S : Stq g h D g' h') (h0 : D 0) : ZG G g' h' := by
  obtain ⟨⟨q1, q2⟩, q3, q4⟩ := H
  have a := S.1 _ (by rw [q1]; simp) (by rw [q3]; exact h0)
  have b := S.1 _ (by rw [q2]; simp) (by rw [q4]; exact h0)
  exact ⟨⟨by rw [a.1]; exact q1, by rw [b.1]; exact q2⟩, by rw [a.2]; exact q3, by rw [b.2]; exact q4⟩
theorem ls_add (G : Gk) {g : Gm} {h : Hp} {r rd e kv : Nat} {es : List Nat} {ws : List Value} (hz : ZG G g h) (H : LsR G g h r rd es) (nr : r ≠ rd) (r0 : 1 < rd) (r1 : r ≠ 0) (hes : eOs h es) (he : h e = some (kv, ws)) (hkv : kv = 1 ∨ kv = 3) (h520 : es.length ≤ 520) : Ct G al_add1 [.ref (g.2 r), .ref e] h (pI fun v h' => v = 1 ∧ ∃ g', LsR G g' h' r rd (es ++ [e]) ∧ Stq g h (fun x => x ≠ r ∧ x ≠ rd) g' h' ∧ ∀ x, x ≠ rd → g'.2 x = g.2 x) := by
  obtain ⟨d, cap, hA, hd, hr⟩ := H.al
  refine (sp_al_add1 G hz.1 hA hes he hkv h520).mono (fun v h' hv => ?_)
  obtain ⟨x, ex, e1, d', cap', ⟨⟨mc, k1⟩, k2, k3, k4⟩, k5, k6, k7⟩ := hv
  refine ⟨x, ex, e1, ?_⟩
  have k4' : h' d' = some (27, alV (es ++ [e]) cap') := k4.elim (fun q => q.2) (fun q => by omega)
  have hA1 : h (g.2 r) ≠ none := by obtain ⟨mc, z⟩ := hA.1; rw [z]; simp
  rcases k5 with ⟨z1, z2, z3⟩ | ⟨z1, z2⟩
  · have hd1 := hd.resolve_right (fun q => by omega)
    obtain ⟨_, y2, y3⟩ := hd1
    subst z1
    refine ⟨g, ⟨d', cap', mc, ⟨k1, hr⟩, k2, k3, Or.inl ⟨k6, y2, by rw [← y2]; exact k4', y3.2⟩⟩, Stq.of (fun a ha hD => k7 a (fun z => hD.1 (by rw [z]; exact hr)) (fun z => hD.2 (by rw [z, y2]; exact y3.2)) ha), fun _ _ => rfl⟩
  · have hne : g.2 r ≠ d' := fun z => hA1 (by rw [z]; exact z1)
    refine ⟨ug g d' rd, ⟨d', cap', mc, ⟨by rw [ug_2n _ _ nr]; exact k1, by rw [ug_2n _ _ nr, ug_1n _ _ hne]; exact hr⟩, k2, k3, Or.inl ⟨k6, (ug_2 _ _ _).symm, by unfold Cl; rw [ug_2, ug_1]; exact ⟨k4', rfl⟩⟩⟩, ⟨fun a ha hD => ⟨?_, ug_1n _ _ (fun z => ha (by rw [z]; exact z1))⟩, fun x hx => ug_2n _ _ hx.2⟩, fun x hx => ug_2n _ _ hx⟩
    by_cases z : a = d
    · rw [z]; exact z2
    · exact k7 a (fun z => hD.1 (by rw [z]; exact hr)) z ha
theorem LsR.rem {G : Gk} {g : Gm} {h h' : Hp} {r rd d cap : Nat} {es es' : List Nat} (hr : g.1 (g.2 r) = r) (hd : (0 < cap ∧ d = g.2 rd ∧ Cl g h rd (27, alV es cap)) ∨ (cap = 0 ∧ d = G.2.2.1)) (H : RemP G h (g.2 r) d cap es' h') : LsR G g h' r rd es' ∧ Stq g h (fun x => x ≠ r ∧ x ≠ rd) g h' := by
  obtain ⟨⟨⟨mc, k1⟩, k2, k3, k4⟩, k5⟩ := H
  refine ⟨⟨d, cap, mc, ⟨k1, hr⟩, k2, k3, ?_⟩, Stq.of (fun a ha hD => k5 a (fun z => hD.1 (by rw [z]; exact hr)) (fun z => ?_) ha)⟩
  · rcases hd with ⟨z1, z2, z3⟩ | z
    · have := k4.resolve_right (fun q => by omega)
      exact Or.inl ⟨z1, z2, by rw [← z2]; exact this.2, z3.2⟩
    · exact Or.inr z
  · unfold dE at z
    rcases hd with ⟨z1, z2, z3⟩ | ⟨z1, z2⟩
    · rw [if_neg (by omega)] at z
      exact hD.2 (by rw [z, z2]; exact z3.2)
    · rw [if_pos z1] at z
      exact hD.1 (by rw [z]; exact hr)
theorem ls_remove (G : Gk) {g : Gm} {h : Hp} {r rd i e : Nat} {es : List Nat} (H : LsR G g h r rd es) (hes : eOs h es) (hi : es[i]? = some e) : Ct G al_remove [.ref (g.2 r), .int (nI i)] h (pR fun v h' => v = e ∧ LsR G g h' r rd (es.eraseIdx i) ∧ Stq g h (fun x => x ≠ r ∧ x ≠ rd) g h') := by
  obtain ⟨d, cap, hA, hd, hr⟩ := H.al
  refine (sp_al_remove G hA hes hi).mono (fun v h' hv => ?_)
  obtain ⟨x, ex, e1, hR⟩ := hv
  exact ⟨x, ex, e1, LsR.rem hr hd hR⟩
theorem ls_clear (G : Gk) {g : Gm} {h : Hp} {r rd : Nat} {es : List Nat} (hz : ZG G g h) (H : LsR G g h r rd es) : Ct G al_clear [.ref (g.2 r)] h (pN fun h' => LsR G g h' r rd [] ∧ Stq g h (fun x => x ≠ r ∧ x ≠ rd) g h') := by
  obtain ⟨d, cap, hA, hd, hr⟩ := H.al
  refine (sp_al_clear G hz.1 hA).mono (fun v h' hv => ?_)
  obtain ⟨e1, hR⟩ := hv
  exact ⟨e1, LsR.rem hr hd hR⟩
/-- an immutable list -/
def ImL (G : Gk) (g : Gm) (h : Hp) (a : Nat) (es : List Nat) : Prop := ∃ d cap mc, Im g h a (0, [.int mc, .ref d, .int (nI es.length)]) ∧ es.length ≤ cap ∧ cap < 1000 ∧ ((0 < cap ∧ Im g h d (27, alV es cap)) ∨ (cap = 0 ∧ d = G.2.2.1))
theorem ImL.al {G : Gk} {g : Gm} {h : Hp} {a : Nat} {es : List Nat} (H : ImL G g h a es) : ∃ d cap, ALr G h a d es cap := by
  obtain ⟨d, cap, mc, h1, h2, h3, h4⟩ := H
  exact ⟨d, cap, ⟨mc, h1.1⟩, h2, h3, h4.imp (fun q => ⟨q.1, q.2.1⟩) id⟩
theorem ImL.st {G : Gk} {g g' : Gm} {h h' : Hp} {D : Nat → Prop} {a : Nat} {es : List Nat} (H : ImL G g h a es) (S : Stq g h D g' h') (h1 : D 1) : ImL G g' h' a es := by
  obtain ⟨d, cap, mc, q1, q2, q3, q4⟩ := H
  exact ⟨d, cap, mc, q1.st S h1, q2, q3, q4.imp (fun z => ⟨z.1, z.2.st S h1⟩) id⟩
/-- a list with roles becomes one that is never written again -/
theorem LsR.im {G : Gk} {g : Gm} {h : Hp} {r rd : Nat} {es : List Nat} (H : LsR G g h r rd es) : ∃ g' : Gm, Stq g h (fun x => x ≠ r ∧ x ≠ rd) g' h ∧ ImL G g' h (g.2 r) es ∧ g'.2 = g.2 := by
  obtain ⟨d, cap, mc, q1, q2, q3, q4⟩ := H
  rcases q4 with ⟨z1, z2, z3⟩ | ⟨z1, z2⟩
  · refine ⟨ui (ui g (g.2 rd)) (g.2 r), ⟨fun a _ hd => ⟨rfl, ?_⟩, fun _ _ => rfl⟩, ⟨d, cap, mc, ⟨q1.1, if_pos rfl⟩, q2, q3, Or.inl ⟨z1, by rw [z2]; exact z3.1, ?_⟩⟩, rfl⟩
    · show (if a = g.2 r then 1 else if a = g.2 rd then 1 else g.1 a) = g.1 a
      rw [if_neg (fun z => hd.1 (by rw [z]; exact q1.2)), if_neg (fun z => hd.2 (by rw [z]; exact z3.2))]
    · rw [z2]
      show (if g.2 rd = g.2 r then 1 else if g.2 rd = g.2 rd then 1 else g.1 (g.2 rd)) = 1
      split <;> simp
  · exact ⟨ui g (g.2 r), ⟨fun a _ hd => ⟨rfl, if_neg (fun z => hd.1 (by rw [z]; exact q1.2))⟩, fun _ _ => rfl⟩, ⟨d, cap, mc, ⟨q1.1, if_pos rfl⟩, q2, q3, Or.inr ⟨z1, z2⟩⟩, rfl⟩
/-- a row that an edit keeps -/
def RwR (g : Gm) (h : Hp) (s : Mem) (o f b : Nat) (v : Int32) (P : Nat → Int32) : Prop := (s.2 3 (8 * sh s o + f) = 2 → ∃ n, n ≤ 6 ∧ v = nI n) ∧ Im g h b (20, arrL (rwN (s.2 3 (8 * sh s o + f)) v) (rwF (s.2 3 (8 * sh s o + f)) v P))
def EdR (g : Gm) (h : Hp) (s : Mem) (e a : Nat) : Prop := ∃ o f b c, o < nO s ∧ f < nf s (sh s o) ∧ s.2 3 (8 * sh s o + f) ≠ 3 ∧ s.2 17 e = nI (8 * o + f) ∧ Im g h a (1, [.int (nI o), .int (nI f), .ref b, .ref c]) ∧ RwR g h s o f b (s.2 18 (7 * e)) (fun i => s.2 18 (7 * e + 1 + i)) ∧ RwR g h s o f c (s.2 19 (7 * e)) (fun i => s.2 19 (7 * e + 1 + i))
def GrR (G : Gk) (g : Gm) (h : Hp) (s : Mem) (x lo hi : Nat) : Prop := ∃ a es, Im g h x (3, [.ref a]) ∧ ImL G g h a es ∧ es.length = hi - lo ∧ ∀ i y, es[i]? = some y → EdR g h s (lo + i) y
/-- what the edits know of the objects -/
def ObE (s t : Mem) : Prop := ∀ o, o < nO s → o < nO t ∧ sh t o = sh s o ∧ ∀ f, f < nf s (sh s o) → f < nf t (sh s o) ∧ t.2 3 (8 * sh s o + f) = s.2 3 (8 * sh s o + f)
theorem RwR.mv {g g' : Gm} {h h' : Hp} {D : Nat → Prop} {s t : Mem} {o f b : Nat} {v v' : Int32} {P P' : Nat → Int32} (H : RwR g h s o f b v P) (S : Stq g h D g' h') (h1 : D 1) (hk : t.2 3 (8 * sh t o + f) = s.2 3 (8 * sh s o + f)) (hv : v' = v) (hP : ∀ i, i < 6 → P' i = P i) : RwR g' h' t o f b v' P' := by
  subst hv
  obtain ⟨q1, q2⟩ := H
  refine ⟨by rw [hk]; exact q1, ?_⟩
  rw [hk]
  have e : arrL (rwN (s.2 3 (8 * sh s o + f)) v') (rwF (s.2 3 (8 * sh s o + f)) v' P') = arrL (rwN (s.2 3 (8 * sh s o + f)) v') (rwF (s.2 3 (8 * sh s o + f)) v' P) := by
    refine arrL_congr (fun i hi => ?_)
    unfold rwF
    by_cases z : s.2 3 (8 * sh s o + f) = 2
    · rw [if_pos z, if_pos z]
      obtain ⟨n, n1, n2⟩ := q1 z
      unfold rwN at hi
      rw [if_pos z, n2, cl n (by omega)] at hi
      exact hP i (by omega)
    · rw [if_neg z, if_neg z]
  rw [e]
  exact q2.st S h1
theorem EdR.mv {g g' : Gm} {h h' : Hp} {D : Nat → Prop} {s t : Mem} {e e' a : Nat} (H : EdR g h s e a) (S : Stq g h D g' h') (h1 : D 1) (hO : ObE s t) (h17 : t.2 17 e' = s.2 17 e) (hr : ∀ k, k < 7 → t.2 18 (7 * e' + k) = s.2 18 (7 * e + k) ∧ t.2 19 (7 * e' + k) = s.2 19 (7 * e + k)) : EdR g' h' t e' a := by
  obtain ⟨o, f, b, c, q1, q2, q3, q4, q5, q6, q7⟩ := H
  obtain ⟨o1, o2, o3⟩ := hO o q1
  obtain ⟨f1, f2⟩ := o3 f q2
  have hk : t.2 3 (8 * sh t o + f) = s.2 3 (8 * sh s o + f) := by rw [o2]; exact f2
  have r0 := hr 0 (by omega)
  refine ⟨o, f, b, c, o1, by rw [o2]; exact f1, by rw [hk]; exact q3, by rw [h17]; exact q4, q5.st S h1, q6.mv S h1 hk r0.1 (fun i hi => ?_), q7.mv S h1 hk r0.2 (fun i hi => ?_)⟩
  · have := (hr (1 + i) (by omega)).1
    rw [← Nat.add_assoc, ← Nat.add_assoc] at this
    exact this
  · have := (hr (1 + i) (by omega)).2
    rw [← Nat.add_assoc, ← Nat.add_assoc] at this
    exact this
theorem GrR.mv {G : Gk} {g g' : Gm} {h h' : Hp} {D : Nat → Prop} {s t : Mem} {x lo hi lo' hi' : Nat} (H : GrR G g h s x lo hi) (S : Stq g h D g' h') (h1 : D 1) (hO : ObE s t) (hl : hi' - lo' = hi - lo) (he : ∀ i, i < hi - lo → t.2 17 (lo' + i) = s.2 17 (lo + i) ∧ ∀ k, k < 7 → t.2 18 (7 * (lo' + i) + k) = s.2 18 (7 * (lo + i) + k) ∧ t.2 19 (7 * (lo' + i) + k) = s.2 19 (7 * (lo + i) + k)) : GrR G g' h' t x lo' hi' := by
  obtain ⟨a, es, q1, q2, q3, q4⟩ := H
  refine ⟨a, es, q1.st S h1, q2.st S h1, by omega, fun i y hy => ?_⟩
  have hi2 := (List.getElem?_eq_some_iff.mp hy).1
  obtain ⟨z1, z2⟩ := he i (by omega)
  exact (q4 i y hy).mv S h1 hO z1 z2
theorem ObE.rf (s : Mem) : ObE s s := fun _ ho => ⟨ho, rfl, fun _ hf => ⟨hf, rfl⟩⟩
def OpR (G : Gk) (g : Gm) (h : Hp) (s : Mem) (v : Value) : Prop := (s.1 23 = 0 ∧ v = .null) ∨ (s.1 23 ≠ 0 ∧ ∃ x es, v = .ref x ∧ Im g h x (3, [.ref (g.2 26)]) ∧ LsR G g h 26 27 es ∧ es.length = gsz s ∧ ∀ i y, es[i]? = some y → EdR g h s (gF s + i) y)
def PH (G : Gk) (g : Gm) (h : Hp) (s : Mem) : Prop := ZG G g h ∧ ∃ dn un v, Cl g h 8 (4, [.ref (g.2 22), .ref (g.2 24), v]) ∧ LsR G g h 22 23 dn ∧ LsR G g h 24 25 un ∧ dn.length = nD s ∧ un.length = nEn s - nD s ∧
  (∀ k x, dn[k]? = some x → GrR G g h s x (enB s k) (en s k)) ∧ (∀ j x, un[j]? = some x → GrR G g h s x (enB s (nEn s - 1 - j)) (en s (nEn s - 1 - j))) ∧ OpR G g h s v
def HiE (s t : Mem) : Prop := (∀ q, q = 16 ∨ q = 20 ∨ q = 21 ∨ q = 23 ∨ q = 24 → t.1 q = s.1 q) ∧ ∀ q, q = 17 ∨ q = 18 ∨ q = 19 ∨ q = 22 → t.2 q = s.2 q
theorem PH.mv {G : Gk} {g g' : Gm} {h h' : Hp} {D : Nat → Prop} {s t : Mem} (H : PH G g h s) (S : Stq g h D g' h') (hd : ∀ r, r ≤ 1 ∨ r = 8 ∨ (22 ≤ r ∧ r ≤ 27) → D r) (hO : ObE s t) (hH : HiE s t) : PH G g' h' t := by
  obtain ⟨hz, dn, un, v, q1, q2, q3, q4, q5, q6, q7, q8⟩ := H
  have eD : nD t = nD s := by unfold nD; rw [hH.1 21 (by omega)]
  have eE : nEn t = nEn s := by unfold nEn; rw [hH.1 20 (by omega)]
  have een : en t = en s := by funext k; unfold en; rw [hH.2 22 (by omega)]
  have eB : enB t = enB s := by funext k; unfold enB; rw [een]
  have eG : gF t = gF s := by unfold gF; rw [hH.1 24 (by omega)]
  have enE : nE t = nE s := by unfold nE; rw [hH.1 16 (by omega)]
  have es : gsz t = gsz s := by unfold gsz; rw [eG, enE, eD, eE]
  have d1 : D 1 := hd 1 (by omega)
  have he : ∀ lo i, t.2 17 (lo + i) = s.2 17 (lo + i) ∧ ∀ k, k < 7 → t.2 18 (7 * (lo + i) + k) = s.2 18 (7 * (lo + i) + k) ∧ t.2 19 (7 * (lo + i) + k) = s.2 19 (7 * (lo + i) + k) := fun lo i => ⟨by rw [hH.2 17 (by omega)], fun k _ => ⟨by rw [hH.2 18 (by omega)], by rw [hH.2 19 (by omega)]⟩⟩
  refine ⟨hz.st S (hd 0 (by omega)), dn, un, v, ?_, q2.st S (hd _ (by omega)) (hd _ (by omega)), q3.st S (hd _ (by omega)) (hd _ (by omega)), by rw [eD]; exact q4, by rw [eD, eE]; exact q5, fun k x hx => ?_, fun j x hx => ?_, ?_⟩
  · rw [S.2 22 (hd _ (by omega)), S.2 24 (hd _ (by omega))]
    exact q1.st S (hd _ (by omega))
  · rw [eB, een]
    exact (q6 k x hx).mv S d1 hO rfl (fun i _ => he _ i)
  · rw [eB, een, eE]
    exact (q7 j x hx).mv S d1 hO rfl (fun i _ => he _ i)
  · unfold OpR
    rw [hH.1 23 (by omega), es, eG]
    rcases q8 with z | ⟨z, x, es, y1, y2, y3, y4, y5⟩
    · exact Or.inl z
    · refine Or.inr ⟨z, x, es, y1, by rw [S.2 26 (hd _ (by omega))]; exact y2.st S d1, y3.st S (hd _ (by omega)) (hd _ (by omega)), y4, fun i y hy => ?_⟩
      obtain ⟨w1, w2⟩ := he (gF s) i
      exact (y5 i y hy).mv S d1 hO w1 w2
theorem GrR.o {G : Gk} {g : Gm} {h : Hp} {s : Mem} {x lo hi : Nat} (H : GrR G g h s x lo hi) : ∃ ws, h x = some (3, ws) := by
  obtain ⟨a, es, q1, _⟩ := H
  exact ⟨_, q1.1⟩
theorem EdR.o {g : Gm} {h : Hp} {s : Mem} {e a : Nat} (H : EdR g h s e a) : ∃ ws, h a = some (1, ws) := by
  obtain ⟨o, f, b, c, _, _, _, _, q, _⟩ := H
  exact ⟨_, q.1⟩
theorem eOs_g {h : Hp} {es : List Nat} (H : ∀ (k x : Nat), es[k]? = some x → ∃ ws, h x = some (3, ws)) : eOs h es := by
  intro x hx
  obtain ⟨k, hk⟩ := List.getElem?_of_mem hx
  obtain ⟨ws, hw⟩ := H k x hk
  exact ⟨3, ws, hw, Or.inr rfl⟩
theorem eOs_e {h : Hp} {es : List Nat} (H : ∀ (k x : Nat), es[k]? = some x → ∃ ws, h x = some (1, ws)) : eOs h es := by
  intro x hx
  obtain ⟨k, hk⟩ := List.getElem?_of_mem hx
  obtain ⟨ws, hw⟩ := H k x hk
  exact ⟨1, ws, hw, Or.inl rfl⟩
theorem sp_ls_size (G : Gk) {g : Gm} {h : Hp} {r rd : Nat} {es : List Nat} (H : LsR G g h r rd es) : Ct G al_size [.ref (g.2 r)] h (pI fun r h' => h = h' ∧ r = nI es.length) := by
  obtain ⟨d, cap, hA, _⟩ := H.al
  exact sp_al_size G hA
theorem sp_ls_isEmpty (G : Gk) {g : Gm} {h : Hp} {r rd : Nat} {es : List Nat} (H : LsR G g h r rd es) : Ct G al_isEmpty [.ref (g.2 r)] h (pI fun r h' => h = h' ∧ r = b01 (es = [])) := by
  obtain ⟨d, cap, hA, _⟩ := H.al
  exact sp_al_isEmpty G hA
theorem LsR.o {G : Gk} {g : Gm} {h : Hp} {r rd : Nat} {es : List Nat} (H : LsR G g h r rd es) : ∃ mc d, h (g.2 r) = some (0, [.int mc, .ref d, .int (nI es.length)]) := by
  obtain ⟨d, cap, mc, q, _⟩ := H
  exact ⟨mc, d, q.1⟩
/-- what done holds once a group has been put down -/
def pshL (dn : List Nat) (x : Nat) : List Nat := if 60 ≤ dn.length then dn.eraseIdx 0 ++ [x] else dn ++ [x]
theorem sp_hi_push (G : Gk) {g : Gm} {h : Hp} {x : Nat} {dn ws : List Nat} {vs : List Value} {v : Value} (hz : ZG G g h) (c8 : Cl g h 8 (4, [.ref (g.2 22), .ref (g.2 24), v])) (H : LsR G g h 22 23 dn) (hes : ∀ (k y : Nat), dn[k]? = some y → ∃ ws, h y = some (3, ws)) (hx : h x = some (3, vs)) (h60 : dn.length ≤ 60) (rx : g.1 x ≠ 22 ∧ g.1 x ≠ 23) (rdn : ∀ (k y : Nat), dn[k]? = some y → g.1 y ≠ 22 ∧ g.1 y ≠ 23) : Ct G hi_push [.ref (g.2 8), .ref x] h (pN fun h' => ∃ g', LsR G g' h' 22 23 (pshL dn x) ∧ Stq g h (fun r => r ≠ 22 ∧ r ≠ 23) g' h' ∧ ∀ r, r ≠ 23 → g'.2 r = g.2 r) := by
  obtain ⟨mc, d, hd⟩ := H.o
  refine Ct.ofL (M := hi_push) (lv := [some (.ref (g.2 8)), some (.ref x)]) mdf_hi_push rfl (Nat.le_of_ble_eq_true rfl) rfl ?_
  refine V_aload_n d_hi_push_0 rfl rfl ?_
  refine V_getf d_hi_push_1 fl_hi_12 c8.1 rfl ?_
  refine V_callV (N := al_size) d_hi_push_4 ml_hi_30 mdf_al_size wi_al_size wz_al_size (sp_ls_size G H) hd ⟨_, rfl, rfl⟩ rfl rfl (by decide) (by decide) (Nat.le_of_ble_eq_true rfl) rfl rfl (kI fun r4 h4 ⟨e4, f4⟩ => ?_)
  subst e4 f4
  refine V_bipush (v := 60) d_hi_push_7 (by decide) ?_
  refine V_icmp_lt d_hi_push_9 (fun c9 => ?_) (fun c9 => ?_)
  · skip
    have hlt : ¬ 60 ≤ dn.length := fun z => absurd c9 (by rw [show dn.length = 60 by omega]; decide)
    refine V_aload_n d_hi_push_21 rfl rfl ?_
    refine V_getf d_hi_push_22 fl_hi_12 c8.1 rfl ?_
    refine V_aload_n d_hi_push_25 rfl rfl ?_
    refine V_callV (N := al_add1) d_hi_push_26 ml_hi_37 mdf_al_add1 wi_al_add1 wz_al_add1 (ls_add G hz H (by decide) (by decide) (by decide) (eOs_g hes) hx (Or.inr rfl) (by omega)) hd ⟨_, rfl, rfl⟩ rfl rfl (by decide) (by decide) (Nat.le_of_ble_eq_true rfl) rfl rfl (kI fun r26 h26 ⟨e26, g', p1, p2, p3⟩ => ?_)
    refine V_pop d_hi_push_29 rfl ?_
    refine V_return d_hi_push_30 rfl ?_
    refine ⟨rfl, g', ?_, p2, p3⟩
    unfold pshL
    rw [if_neg hlt]
    exact p1
  · skip
    have hge : 60 ≤ dn.length := by rcases Nat.lt_or_ge dn.length 60 with z | z; exact absurd (nI_lt z (by omega)) c9; exact z
    obtain ⟨y, hy⟩ : ∃ y, dn[0]? = some y := ⟨_, List.getElem?_eq_getElem (by omega)⟩
    refine V_aload_n d_hi_push_12 rfl rfl ?_
    refine V_getf d_hi_push_13 fl_hi_12 c8.1 rfl ?_
    refine V_iconst (v := 0) d_hi_push_16 (by decide) ?_
    refine V_callV (N := al_remove) d_hi_push_17 ml_hi_46 mdf_al_remove wi_al_remove wz_al_remove (ls_remove G H (eOs_g hes) (i := 0) hy) hd ⟨_, rfl, rfl⟩ rfl rfl (by decide) (by decide) (Nat.le_of_ble_eq_true rfl) rfl rfl (kR fun r17 h17 ⟨e17, p1, p2⟩ => ?_)
    have c81 := c8.st p2 (by omega)
    obtain ⟨mc1, d1, hd1⟩ := p1.o
    have hl1 : (dn.eraseIdx 0).length = dn.length - 1 := by rw [List.length_eraseIdx, if_pos (by omega)]
    refine V_pop d_hi_push_20 rfl ?_
    refine V_aload_n d_hi_push_21 rfl rfl ?_
    refine V_getf d_hi_push_22 fl_hi_12 c81.1 rfl ?_
    refine V_aload_n d_hi_push_25 rfl rfl ?_
    refine V_callV (N := al_add1) d_hi_push_26 ml_hi_37 mdf_al_add1 wi_al_add1 wz_al_add1 (ls_add G (hz.st p2 (by omega)) p1 (by decide) (by decide) (by decide) (eOs_g (fun k z hk => by rw [List.getElem?_eraseIdx, if_neg (by omega)] at hk; obtain ⟨ws, hw⟩ := hes _ z hk; exact ⟨ws, by rw [(p2.1 z (by rw [hw]; simp) (rdn _ z hk)).1]; exact hw⟩)) (by rw [(p2.1 x (by rw [hx]; simp) rx).1]; exact hx) (Or.inr rfl) (by omega)) hd1 ⟨_, rfl, rfl⟩ rfl rfl (by decide) (by decide) (Nat.le_of_ble_eq_true rfl) rfl rfl (kI fun r26 h26 ⟨e26, g', p3, p4, p5⟩ => ?_)
    refine V_pop d_hi_push_29 rfl ?_
    refine V_return d_hi_push_30 rfl ?_
    refine ⟨rfl, g', ?_, p2.tr p4, p5⟩
    unfold pshL
    rw [if_pos hge]
    exact p3
