/-! the class's memory: a role for each address (0 others', 1 never written again), an address for each role that is written -/
abbrev Gm : Type := (Nat → Nat) × (Nat → Nat)
def Cl (g : Gm) (h : Hp) (r : Nat) (c : Nat × List Value) : Prop := h (g.2 r) = some c ∧ g.1 (g.2 r) = r
def Im (g : Gm) (h : Hp) (a : Nat) (c : Nat × List Value) : Prop := h a = some c ∧ g.1 a = 1
/-- from g, h to g', h' the roles of D are kept -/
def Stq (g : Gm) (h : Hp) (D : Nat → Prop) (g' : Gm) (h' : Hp) : Prop := (∀ a, h a ≠ none → D (g.1 a) → h' a = h a ∧ g'.1 a = g.1 a) ∧ ∀ r, D r → g'.2 r = g.2 r
theorem Cl.st {g g' : Gm} {h h' : Hp} {D : Nat → Prop} {r : Nat} {c : Nat × List Value} (H : Cl g h r c) (S : Stq g h D g' h') (hr : D r) : Cl g' h' r c := by
  obtain ⟨h1, h2⟩ := H
  have q := S.1 (g.2 r) (by rw [h1]; simp) (by rw [h2]; exact hr)
  unfold Cl
  rw [S.2 r hr, q.1, q.2]
  exact ⟨h1, h2⟩
theorem Im.st {g g' : Gm} {h h' : Hp} {D : Nat → Prop} {a : Nat} {c : Nat × List Value} (H : Im g h a c) (S : Stq g h D g' h') (hr : D 1) : Im g' h' a c := by
  obtain ⟨h1, h2⟩ := H
  have q := S.1 a (by rw [h1]; simp) (by rw [h2]; exact hr)
  exact ⟨by rw [q.1]; exact h1, by rw [q.2]; exact h2⟩
theorem Stq.rf (g : Gm) (h : Hp) (D : Nat → Prop) : Stq g h D g h := ⟨fun _ _ _ => ⟨rfl, rfl⟩, fun _ _ => rfl⟩
theorem Stq.tr {g g1 g2 : Gm} {h h1 h2 : Hp} {D : Nat → Prop} (a : Stq g h D g1 h1) (b : Stq g1 h1 D g2 h2) : Stq g h D g2 h2 := by
  refine ⟨fun x hx hd => ?_, fun r hr => (b.2 r hr).trans (a.2 r hr)⟩
  have q := a.1 x hx hd
  have w := b.1 x (by rw [q.1]; exact hx) (by rw [q.2]; exact hd)
  exact ⟨w.1.trans q.1, w.2.trans q.2⟩
theorem Stq.mo {g g1 : Gm} {h h1 : Hp} {D E : Nat → Prop} (a : Stq g h D g1 h1) (f : ∀ r, E r → D r) : Stq g h E g1 h1 := ⟨fun x hx hd => a.1 x hx (f _ hd), fun r hr => a.2 r (f r hr)⟩
/-- a new cell with the role r; a new cell that is never written again -/
def ug (g : Gm) (q r : Nat) : Gm := (fun a => if a = q then r else g.1 a, fun x => if x = r then q else g.2 x)
def ui (g : Gm) (q : Nat) : Gm := (fun a => if a = q then 1 else g.1 a, g.2)
theorem ug_1 (g : Gm) (q r : Nat) : (ug g q r).1 q = r := if_pos rfl
theorem ug_1n (g : Gm) {q a : Nat} (r : Nat) (e : a ≠ q) : (ug g q r).1 a = g.1 a := if_neg e
theorem ug_2 (g : Gm) (q r : Nat) : (ug g q r).2 r = q := if_pos rfl
theorem ug_2n (g : Gm) (q : Nat) {r x : Nat} (e : x ≠ r) : (ug g q r).2 x = g.2 x := if_neg e
theorem Stq.fresh {g : Gm} {h : Hp} {q : Nat} (hq : h q = none) (r : Nat) (c : Nat × List Value) : Stq g h (fun x => x ≠ r) (ug g q r) (hu h q c) := by
  refine ⟨fun a ha _ => ?_, fun x hx => ug_2n g q hx⟩
  have e : a ≠ q := fun z => ha (by rw [z]; exact hq)
  exact ⟨hu_ne _ _ e, ug_1n g r e⟩
theorem Cl.fresh (g : Gm) (h : Hp) (q r : Nat) (c : Nat × List Value) : Cl (ug g q r) (hu h q c) r c := by
  unfold Cl
  rw [ug_2, hu_self, ug_1]
  exact ⟨rfl, rfl⟩
theorem Stq.freshI {g : Gm} {h : Hp} {q : Nat} (hq : h q = none) (D : Nat → Prop) (c : Nat × List Value) : Stq g h D (ui g q) (hu h q c) := by
  refine ⟨fun a ha _ => ?_, fun x hx => rfl⟩
  have e : a ≠ q := fun z => ha (by rw [z]; exact hq)
  exact ⟨hu_ne _ _ e, if_neg e⟩
theorem Im.fresh (g : Gm) (h : Hp) (q : Nat) (c : Nat × List Value) : Im (ui g q) (hu h q c) q c := ⟨hu_self _ _ _, if_pos rfl⟩
theorem Stq.put {g : Gm} {h : Hp} {r : Nat} (hr : g.1 (g.2 r) = r) (c : Nat × List Value) : Stq g h (fun x => x ≠ r) g (hu h (g.2 r) c) := by
  refine ⟨fun a ha hd => ⟨?_, rfl⟩, fun x hx => rfl⟩
  exact hu_ne _ _ (fun z => hd (by rw [z]; exact hr))
theorem Cl.put {g : Gm} {h : Hp} {r : Nat} (hr : g.1 (g.2 r) = r) (c : Nat × List Value) : Cl g (hu h (g.2 r) c) r c := ⟨hu_self _ _ _, hr⟩
/-- any change of the cells of given roles -/
theorem Stq.of {g : Gm} {h h' : Hp} {D : Nat → Prop} (f : ∀ a, h a ≠ none → D (g.1 a) → h' a = h a) : Stq g h D g h' := ⟨fun a ha hd => ⟨f a ha hd, rfl⟩, fun _ _ => rfl⟩
theorem Cl.ne {g : Gm} {h : Hp} {r x : Nat} {c d : Nat × List Value} (H : Cl g h r c) (J : Cl g h x d) (e : r ≠ x) : g.2 r ≠ g.2 x := fun z => e (by rw [← H.2, z, J.2])
theorem Cl.neI {g : Gm} {h : Hp} {r a : Nat} {c d : Nat × List Value} (H : Im g h a c) (J : Cl g h r d) (e : r ≠ 1) : a ≠ g.2 r := fun z => e (by rw [← J.2, ← z, H.2])
/-! the parts -/
def PX (g : Gm) (h : Hp) (s : Mem) : Prop := Cl g h 2 (12, [.ref (g.2 3), .int (s.1 0), .ref (g.2 4), .int (s.1 8), .ref (g.2 5), .int (s.1 33), .ref (g.2 6), .int (s.1 25), .ref (g.2 8), .ref (g.2 9), .ref (g.2 12), .ref (g.2 16), .ref (g.2 17), .ref (g.2 7)])
/-- a shape below it, or an object of it -/
def uS (s : Mem) (i : Nat) : Prop := (∃ k, k < nS s ∧ s.2 1 k = nI i) ∨ ∃ o, o < nO s ∧ s.2 9 o = nI i
/-- the cell of a field -/
def fdS (s : Mem) (i j : Nat) : List Value := fdV (s.2 3 (8 * i + j)) (s.2 4 (8 * i + j)) (s.2 5 (8 * i + j)) (s.2 6 (8 * i + j)) (s.2 7 (8 * i + j))
def PSf (g : Gm) (h : Hp) (s : Mem) (i : Nat) : Prop := ∃ L, L.length = 8 ∧ Cl g h (200 + i) (22, L) ∧ ∀ j, j < nf s i → ∃ a, L[j]? = some (.ref a) ∧ Im g h a (2, fdS s i j)
def PSi (g : Gm) (h : Hp) (s : Mem) (i : Nat) : Prop := Cl g h (100 + i) (8, [.int (s.2 1 i), .ref (g.2 (200 + i)), .int (s.2 2 i), .int (b01 (uS s i))]) ∧ PSf g h s i
def PS (g : Gm) (h : Hp) (s : Mem) : Prop := ∃ L, L.length = 10 ∧ Cl g h 3 (24, L) ∧ ∀ i, i < nS s → L[i]? = some (.ref (g.2 (100 + i))) ∧ PSi g h s i
/-- the row of a field of an object -/
def rowN (s : Mem) (o f : Nat) : Nat := rwN (s.2 3 (8 * sh s o + f)) (s.2 10 (8 * o + f))
def rowF (s : Mem) (o f : Nat) : Nat → Int32 := rwF (s.2 3 (8 * sh s o + f)) (s.2 10 (8 * o + f)) (fun i => s.2 11 (6 * (8 * o + f) + i))
def POi (g : Gm) (h : Hp) (s : Mem) (o : Nat) (R : List Value) : Prop := R.length = nf s (sh s o) ∧ Cl g h (300 + o) (28, R) ∧ ∀ f, f < nf s (sh s o) → ∃ a, R[f]? = some (.ref a) ∧ Im g h a (20, arrL (rowN s o f) (rowF s o f))
def PO (g : Gm) (h : Hp) (s : Mem) : Prop := ∃ L, L.length = 60 ∧ Cl g h 4 (25, L) ∧ ∀ o, o < nO s → ∃ t, L[o]? = some (.ref t) ∧ Im g h t (10, [.int (s.2 9 o), .ref (g.2 (300 + o))]) ∧ ∃ R, POi g h s o R
def PPi (g : Gm) (h : Hp) (s : Mem) (p : Nat) : Prop := Cl g h (400 + p) (6, [.ref (g.2 (500 + p)), .ref (g.2 (600 + p)), .int (s.2 34 p)]) ∧ ∃ u v, Cl g h (500 + p) (20, arrL 5 u) ∧ Cl g h (600 + p) (20, arrL 5 v) ∧ ∀ i, i < sp s p → u i = s.2 35 (5 * p + i) ∧ v i = s.2 36 (5 * p + i)
def PP (g : Gm) (h : Hp) (s : Mem) : Prop := ∃ L, L.length = 16 ∧ Cl g h 5 (23, L) ∧ ∀ p, p < nP s → L[p]? = some (.ref (g.2 (400 + p))) ∧ PPi g h s p
def PWi (g : Gm) (h : Hp) (s : Mem) (w : Nat) : Prop := Cl g h (700 + w) (11, [.int (s.2 26 w), .int (s.2 27 w), .int (s.2 28 w), .int (s.2 29 w), .ref (g.2 (800 + w)), .ref (g.2 (900 + w)), .ref (g.2 (1000 + w)), .int (s.2 30 w)]) ∧
  ∃ u v x, Cl g h (800 + w) (20, arrL 40 u) ∧ Cl g h (900 + w) (20, arrL 40 v) ∧ Cl g h (1000 + w) (20, arrL 40 x) ∧ ∀ i, i < wc s w → u i = s.2 31 (3 * (40 * w + i)) ∧ v i = s.2 31 (3 * (40 * w + i) + 1) ∧ x i = s.2 31 (3 * (40 * w + i) + 2)
def PW (g : Gm) (h : Hp) (s : Mem) : Prop := ∃ L, L.length = 10 ∧ Cl g h 6 (26, L) ∧ ∀ w, w < nW s → L[w]? = some (.ref (g.2 (700 + w))) ∧ PWi g h s w
/-- scratch: values, reach, pairs, spots -/
def ZV (g : Gm) (h : Hp) : Prop := ∃ f, Cl g h 7 (20, arrL 8 f)
def ZR (g : Gm) (h : Hp) (b : Bf) : Prop := Cl g h 9 (7, [.ref (g.2 10), .ref (g.2 11), .int (nI b.1)]) ∧ Cl g h 10 (20, arrL 60 b.2.1) ∧ Cl g h 11 (20, arrL 60 b.2.2)
def ZP (g : Gm) (h : Hp) (P : Pj) : Prop := Cl g h 12 (5, [.ref (g.2 13), .ref (g.2 14), .ref (g.2 15), .int (nI P.1)]) ∧ Cl g h 13 (20, arrL 60 P.2.1) ∧ Cl g h 14 (20, arrL 60 P.2.2.1) ∧ Cl g h 15 (20, arrL 60 P.2.2.2)
def ZS (g : Gm) (h : Hp) (k : Nat) : Prop := ∃ n u v, Cl g h (16 + k) (9, [.ref (g.2 (18 + k)), .ref (g.2 (20 + k)), .int n]) ∧ Cl g h (18 + k) (20, arrL 36 u) ∧ Cl g h (20 + k) (20, arrL 36 v)
def PZ (g : Gm) (h : Hp) : Prop := ZV g h ∧ (∃ b, ZR g h b) ∧ (∃ P, ZP g h P) ∧ ZS g h 0 ∧ ZS g h 1
section Keep
variable {g g' : Gm} {h h' : Hp} {D : Nat → Prop} {s : Mem}
theorem PX.st (H : PX g h s) (S : Stq g h D g' h') (hd : D 2) (hg : ∀ r, 3 ≤ r → r ≤ 17 → g'.2 r = g.2 r) : PX g' h' s := by
  have q := Cl.st H S hd
  unfold PX
  rw [hg 3 (by omega) (by omega), hg 4 (by omega) (by omega), hg 5 (by omega) (by omega), hg 6 (by omega) (by omega), hg 8 (by omega) (by omega), hg 9 (by omega) (by omega), hg 12 (by omega) (by omega), hg 16 (by omega) (by omega), hg 17 (by omega) (by omega), hg 7 (by omega) (by omega)]
  exact q
/-- the same, when the addresses of the roles stay -/
theorem PX.sg (H : PX g h s) (S : Stq g h D g h') (hd : D 2) : PX g h' s := H.st S hd (fun _ _ _ => rfl)
theorem PSf.st {i : Nat} (H : PSf g h s i) (S : Stq g h D g' h') (h1 : D 1) (h2 : D (200 + i)) : PSf g' h' s i := by
  obtain ⟨L, q1, q2, q3⟩ := H
  refine ⟨L, q1, q2.st S h2, fun j hj => ?_⟩
  obtain ⟨a, q4, q5⟩ := q3 j hj
  exact ⟨a, q4, q5.st S h1⟩
theorem PSi.st {i : Nat} (H : PSi g h s i) (S : Stq g h D g' h') (h1 : D 1) (h2 : D (100 + i)) (h3 : D (200 + i)) : PSi g' h' s i := by
  refine ⟨?_, H.2.st S h1 h3⟩
  have q := H.1.st S h2
  rw [S.2 _ h3]
  exact q
theorem PS.st (H : PS g h s) (hn : nS s ≤ 10) (S : Stq g h D g' h') (h1 : D 1) (h3 : D 3) (hd : ∀ r, 100 ≤ r → r < 300 → D r) : PS g' h' s := by
  obtain ⟨L, q1, q2, q3⟩ := H
  refine ⟨L, q1, q2.st S h3, fun i hi => ⟨?_, (q3 i hi).2.st S h1 (hd _ (by omega) (by omega)) (hd _ (by omega) (by omega))⟩⟩
  rw [S.2 _ (hd (100 + i) (by omega) (by omega))]
  exact (q3 i hi).1
theorem POi.st {o : Nat} {R : List Value} (H : POi g h s o R) (S : Stq g h D g' h') (h1 : D 1) (h2 : D (300 + o)) : POi g' h' s o R := by
  obtain ⟨q1, q2, q3⟩ := H
  refine ⟨q1, q2.st S h2, fun f hf => ?_⟩
  obtain ⟨a, q4, q5⟩ := q3 f hf
  exact ⟨a, q4, q5.st S h1⟩
theorem PO.st (H : PO g h s) (hn : nO s ≤ 60) (S : Stq g h D g' h') (h1 : D 1) (h4 : D 4) (hd : ∀ r, 300 ≤ r → r < 400 → D r) : PO g' h' s := by
  obtain ⟨L, q1, q2, q3⟩ := H
  refine ⟨L, q1, q2.st S h4, fun o ho => ?_⟩
  obtain ⟨t, q4, q5, R, q6⟩ := q3 o ho
  refine ⟨t, q4, ?_, R, q6.st S h1 (hd _ (by omega) (by omega))⟩
  rw [S.2 _ (hd (300 + o) (by omega) (by omega))]
  exact q5.st S h1
theorem PPi.st {p : Nat} (H : PPi g h s p) (S : Stq g h D g' h') (h1 : D (400 + p)) (h2 : D (500 + p)) (h3 : D (600 + p)) : PPi g' h' s p := by
  obtain ⟨q1, u, v, q2, q3, q4⟩ := H
  refine ⟨?_, u, v, q2.st S h2, q3.st S h3, q4⟩
  rw [S.2 _ h2, S.2 _ h3]
  exact q1.st S h1
theorem PP.st (H : PP g h s) (hn : nP s ≤ 16) (S : Stq g h D g' h') (h5 : D 5) (hd : ∀ r, 400 ≤ r → r < 700 → D r) : PP g' h' s := by
  obtain ⟨L, q1, q2, q3⟩ := H
  refine ⟨L, q1, q2.st S h5, fun p hp => ⟨?_, (q3 p hp).2.st S (hd _ (by omega) (by omega)) (hd _ (by omega) (by omega)) (hd _ (by omega) (by omega))⟩⟩
  rw [S.2 _ (hd (400 + p) (by omega) (by omega))]
  exact (q3 p hp).1
theorem PWi.st {w : Nat} (H : PWi g h s w) (S : Stq g h D g' h') (h1 : D (700 + w)) (h2 : D (800 + w)) (h3 : D (900 + w)) (h4 : D (1000 + w)) : PWi g' h' s w := by
  obtain ⟨q1, u, v, x, q2, q3, q4, q5⟩ := H
  refine ⟨?_, u, v, x, q2.st S h2, q3.st S h3, q4.st S h4, q5⟩
  rw [S.2 _ h2, S.2 _ h3, S.2 _ h4]
  exact q1.st S h1
theorem PW.st (H : PW g h s) (hn : nW s ≤ 10) (S : Stq g h D g' h') (h6 : D 6) (hd : ∀ r, 700 ≤ r → r < 1100 → D r) : PW g' h' s := by
  obtain ⟨L, q1, q2, q3⟩ := H
  refine ⟨L, q1, q2.st S h6, fun p hp => ⟨?_, (q3 p hp).2.st S (hd _ (by omega) (by omega)) (hd _ (by omega) (by omega)) (hd _ (by omega) (by omega)) (hd _ (by omega) (by omega))⟩⟩
  rw [S.2 _ (hd (700 + p) (by omega) (by omega))]
  exact (q3 p hp).1
theorem ZV.st (H : ZV g h) (S : Stq g h D g' h') (h1 : D 7) : ZV g' h' := by
  obtain ⟨f, q⟩ := H
  exact ⟨f, q.st S h1⟩
theorem ZR.st {b : Bf} (H : ZR g h b) (S : Stq g h D g' h') (h1 : D 9) (h2 : D 10) (h3 : D 11) : ZR g' h' b := by
  refine ⟨?_, H.2.1.st S h2, H.2.2.st S h3⟩
  rw [S.2 _ h2, S.2 _ h3]
  exact H.1.st S h1
theorem ZP.st {P : Pj} (H : ZP g h P) (S : Stq g h D g' h') (h1 : D 12) (h2 : D 13) (h3 : D 14) (h4 : D 15) : ZP g' h' P := by
  refine ⟨?_, H.2.1.st S h2, H.2.2.1.st S h3, H.2.2.2.st S h4⟩
  rw [S.2 _ h2, S.2 _ h3, S.2 _ h4]
  exact H.1.st S h1
theorem ZS.st {k : Nat} (H : ZS g h k) (S : Stq g h D g' h') (h1 : D (16 + k)) (h2 : D (18 + k)) (h3 : D (20 + k)) : ZS g' h' k := by
  obtain ⟨n, u, v, q1, q2, q3⟩ := H
  refine ⟨n, u, v, ?_, q2.st S h2, q3.st S h3⟩
  rw [S.2 _ h2, S.2 _ h3]
  exact q1.st S h1
theorem PZ.st (H : PZ g h) (S : Stq g h D g' h') (hd : ∀ r, 7 ≤ r → r ≤ 21 → D r) : PZ g' h' := by
  obtain ⟨q1, ⟨b, q2⟩, ⟨P, q3⟩, q4, q5⟩ := H
  exact ⟨q1.st S (hd _ (by omega) (by omega)), ⟨b, q2.st S (hd _ (by omega) (by omega)) (hd _ (by omega) (by omega)) (hd _ (by omega) (by omega))⟩, ⟨P, q3.st S (hd _ (by omega) (by omega)) (hd _ (by omega) (by omega)) (hd _ (by omega) (by omega)) (hd _ (by omega) (by omega))⟩, q4.st S (hd _ (by omega) (by omega)) (hd _ (by omega) (by omega)) (hd _ (by omega) (by omega)), q5.st S (hd _ (by omega) (by omega)) (hd _ (by omega) (by omega)) (hd _ (by omega) (by omega))⟩
end Keep
/-- all but the history -/
def RB (g : Gm) (h : Hp) (s : Mem) : Prop := PX g h s ∧ PS g h s ∧ PO g h s ∧ PP g h s ∧ PW g h s ∧ PZ g h
/-- all roles but scratch -/
def nSc (r : Nat) : Prop := r < 7 ∨ r = 8 ∨ 21 < r
/-- numbers that are small -/
def Sm (s : Mem) : Prop := nS s ≤ 10 ∧ nO s ≤ 60 ∧ nP s ≤ 16 ∧ nW s ≤ 10
/-- from h to h' only scratch changes; what stands there afterwards is of the right form -/
theorem RB.sc {g : Gm} {h h' : Hp} {s : Mem} (R : RB g h s) (hm : Sm s) (S : Stq g h nSc g h') (hz : PZ g h') : RB g h' s := by
  obtain ⟨q1, q2, q3, q4, q5, q6⟩ := R
  exact ⟨q1.sg S (Or.inl (by omega)), q2.st hm.1 S (Or.inl (by omega)) (Or.inl (by omega)) (fun r _ _ => Or.inr (Or.inr (by omega))), q3.st hm.2.1 S (Or.inl (by omega)) (Or.inl (by omega)) (fun r _ _ => Or.inr (Or.inr (by omega))), q4.st hm.2.2.1 S (Or.inl (by omega)) (fun r _ _ => Or.inr (Or.inr (by omega))), q5.st hm.2.2.2 S (Or.inl (by omega)) (fun r _ _ => Or.inr (Or.inr (by omega))), hz⟩
