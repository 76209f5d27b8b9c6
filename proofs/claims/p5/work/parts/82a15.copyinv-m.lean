section
def DST (st : Nat → Prop) (src : Nat → Int64) (d y : Int64) : Prop := (¬ isH y ∧ d = y) ∨ (isH y ∧ so d = so y ∧ 0 ≤ va d ∧ st (vn d) ∧ src (vn d) = y)
def CPI (hS : Nat → Int64) (nS : Nat) (owS kdS : Nat → Nat) (Fv : Int64 → Int64 → Prop) (P : Int64 → Prop) (f n0 : Nat) (g : Nat → Int64) (cur many kc jc : Nat) (sk : Nat → Int64) (at' : Nat → Int) (c : Nat → Nat) (st : Nat → Prop) (src : Nat → Int64) (oo : Nat → Nat) : Prop :=
  n0 ≤ cur ∧
  (∀ i, i < many → isH (sk i) ∧ SZ hS nS owS kdS Fv P f (sk i) (c i) ∧ (at' i = -1 ∨ (0 ≤ at' i ∧ ∃ k j, st k ∧ prt (src k) ≤ j ∧ j < blk hS (src k) ∧ (at' i).toNat = k + j ∧ hS (vn (src k) + j) = sk i))) ∧
  (∀ k, st k → n0 ≤ k ∧ k + blk hS (src k) ≤ cur ∧ isH (src k) ∧ GT nS owS kdS P (src k) ∧ (∀ j, j < blk hS (src k) → oo (k + j) = k) ∧ (∀ j, j < blk hS (src k) → (k = kc → j < jc) → (j < prt (src k) → g (k + j) = hS (vn (src k) + j)) ∧ (prt (src k) ≤ j → (∃ i, i < many ∧ at' i = ((k + j : Nat) : Int) ∧ sk i = hS (vn (src k) + j)) ∨ DST st src (g (k + j)) (hS (vn (src k) + j))))) ∧
  (∀ x, n0 ≤ x → x < cur → ∃ k j, st k ∧ j < blk hS (src k) ∧ x = k + j)
section
variable {hS : Nat → Int64} {nS f n0 : Nat} {owS kdS : Nat → Nat} {Fv : Int64 → Int64 → Prop} {P : Int64 → Prop} {g : Nat → Int64} {cur many kc jc : Nat} {sk : Nat → Int64} {at' : Nat → Int} {c : Nat → Nat} {st : Nat → Prop} {src : Nat → Int64} {oo : Nat → Nat}
theorem DST_mo {st2 : Nat → Prop} {src2 : Nat → Int64} {d y : Int64} (z : DST st src d y) (h1 : ∀ k, st k → st2 k ∧ src2 k = src k) : DST st2 src2 d y := by
  rcases z with z | ⟨a, b, c, d, e⟩
  · exact Or.inl z
  · exact Or.inr ⟨a, b, c, (h1 _ d).1, by rw [(h1 _ d).2]; exact e⟩
theorem CPI_pop {g2 : Nat → Int64} {x : Int64} {a : Int} (i : CPI hS nS owS kdS Fv P f n0 g cur (many + 1) cur 0 sk at' c st src oo) (hx : sk many = x) (ha : at' many = a)
    (hg : ∀ j, (a ≠ -1 ∧ j = a.toNat → so (g2 j) = so x ∧ va (g2 j) = cur) ∧ (¬ (a ≠ -1 ∧ j = a.toNat) → g2 j = g j)) :
    CPI hS nS owS kdS Fv P f n0 g2 (cur + blk hS x) many cur 0 sk at' c (fun k => st k ∨ k = cur) (fun k => if k = cur then x else src k) (fun z => if cur ≤ z then cur else oo z) := by
  obtain ⟨i1, i2, i3, i4⟩ := i
  obtain ⟨s1, s2, s3⟩ := i2 many (by omega)
  rw [hx] at s1 s2 s3
  rw [ha] at s3
  have gx := SZ_gt s2
  have bp := blk_pos (h := hS) s1
  have ncur : ∀ k, st k → k < cur := fun k hk => by
    obtain ⟨-, b, c, -⟩ := i3 k hk
    have := blk_pos (h := hS) c
    omega
  have esrc : ∀ k, st k → (if k = cur then x else src k) = src k := fun k hk => if_neg (by have := ncur k hk; omega)
  have mo : ∀ k, st k → (st k ∨ k = cur) ∧ (fun k => if k = cur then x else src k) k = src k := fun k hk => ⟨Or.inl hk, esrc k hk⟩
  refine ⟨by omega, fun q hq => ?_, fun k hk => ?_, fun z h1 h2 => ?_⟩
  · obtain ⟨t1, t2, t3⟩ := i2 q (by omega)
    refine ⟨t1, t2, ?_⟩
    rcases t3 with t3 | ⟨t3, k, j, t4, t5, t6, t7, t8⟩
    · exact Or.inl t3
    · refine Or.inr ⟨t3, k, j, Or.inl t4, ?_, ?_, t7, ?_⟩
      · simp only [esrc k t4]; exact t5
      · simp only [esrc k t4]; exact t6
      · simp only [esrc k t4]; exact t8
  · rcases hk with hk | hk
    · obtain ⟨r1, r2, r3, r4, r5, r6⟩ := i3 k hk
      have lt := ncur k hk
      simp only [esrc k hk]
      refine ⟨r1, by omega, r3, r4, fun j hj => ?_, fun j hj hjc => ?_⟩
      · rw [if_neg (by omega)]; exact r5 j hj
      · obtain ⟨y1, y2⟩ := r6 j hj (fun z => by omega)
        refine ⟨fun hp2 => ?_, fun hp2 => ?_⟩
        · have := (hg (k + j)).2 (fun ⟨z1, z2⟩ => by
            rcases s3 with s3 | ⟨s3, k', j', t4, t5, t6, t7, t8⟩
            · exact z1 s3
            · have e1 := r5 j hj
              have e2 := (i3 k' t4).2.2.2.2.1 j' t6
              rw [← t7, ← z2, e1] at e2
              subst e2
              omega)
          rw [this]; exact y1 hp2
        · by_cases hit : a ≠ -1 ∧ k + j = a.toNat
          · obtain ⟨g1, g2'⟩ := (hg (k + j)).1 hit
            right
            rcases s3 with s3 | ⟨s3, k', j', t4, t5, t6, t7, t8⟩
            · exact absurd s3 hit.1
            · have e1 := r5 j hj
              have e2 := (i3 k' t4).2.2.2.2.1 j' t6
              rw [← t7, ← hit.2, e1] at e2
              subst e2
              have ej : j = j' := by omega
              subst ej
              rw [t8]
              refine Or.inr ⟨s1, g1, by omega, Or.inr (by unfold vn; omega), ?_⟩
              show (if vn (g2 (k + j)) = cur then x else _) = x
              rw [if_pos (by unfold vn; omega)]
          · rw [(hg (k + j)).2 hit]
            rcases y2 hp2 with ⟨q, q1, q2, q3⟩ | y2
            · by_cases eq : q = many
              · subst eq
                exact absurd ⟨by rw [← ha, q2]; omega, by rw [← ha, q2]; omega⟩ hit
              · exact Or.inl ⟨q, by omega, q2, q3⟩
            · exact Or.inr (DST_mo y2 mo)
    · subst hk
      simp only [if_true]
      refine ⟨i1, Nat.le_refl _, s1, gx, fun j hj => if_pos (by omega), fun j hj hjc => absurd (hjc trivial) (Nat.not_lt_zero _)⟩
  · by_cases e : z < cur
    · obtain ⟨k, j, t1, t2, t3⟩ := i4 z h1 e
      exact ⟨k, j, Or.inl t1, by simp only [esrc k t1]; exact t2, t3⟩
    · exact ⟨cur, z - cur, Or.inr rfl, by simp only [if_true]; omega, by omega⟩
theorem CPI_cell {g2 : Nat → Int64} {y : Int64} (i : CPI hS nS owS kdS Fv P f n0 g cur many kc jc sk at' c st src oo) (hk : st kc) (hj : jc < blk hS (src kc)) (hy : hS (vn (src kc) + jc) = y) (hg : ∀ z, g2 z = if z = kc + jc then y else g z) (hn : jc < prt (src kc) ∨ ¬ isH y) : CPI hS nS owS kdS Fv P f n0 g2 cur many kc (jc + 1) sk at' c st src oo := by
  obtain ⟨i1, i2, i3, i4⟩ := i
  refine ⟨i1, i2, fun k hk2 => ?_, i4⟩
  obtain ⟨r1, r2, r3, r4, r5, r6⟩ := i3 k hk2
  refine ⟨r1, r2, r3, r4, r5, fun j hj2 hjc => ?_⟩
  by_cases e : k + j = kc + jc
  · have e1 := r5 j hj2
    have e2 := (i3 kc hk).2.2.2.2.1 jc hj
    rw [e, e2] at e1
    subst e1
    have ej : j = jc := by omega
    subst ej
    rw [hg, if_pos rfl, hy]
    refine ⟨fun _ => rfl, fun hp2 => Or.inr (Or.inl ⟨?_, rfl⟩)⟩
    rcases hn with hn | hn
    · omega
    · exact hn
  · rw [hg, if_neg e]
    exact r6 j hj2 (fun z => by have := hjc z; subst z; omega)
theorem CPI_push {g2 : Nat → Int64} {sk2 : Nat → Int64} {at2 : Nat → Int} {y : Int64} {d : Nat} (i : CPI hS nS owS kdS Fv P f n0 g cur many kc jc sk at' c st src oo) (hk : st kc) (hj : jc < blk hS (src kc)) (hp : prt (src kc) ≤ jc) (hy : hS (vn (src kc) + jc) = y) (hyh : isH y) (hz : SZ hS nS owS kdS Fv P f y d) (hg : ∀ z, g2 z = if z = kc + jc then y else g z) (h1 : ∀ q, sk2 q = if q = many then y else sk q) (h2 : ∀ q, at2 q = if q = many then ((kc + jc : Nat) : Int) else at' q) : CPI hS nS owS kdS Fv P f n0 g2 cur (many + 1) kc (jc + 1) sk2 at2 (fun q => if q = many then d else c q) st src oo := by
  obtain ⟨i1, i2, i3, i4⟩ := i
  refine ⟨i1, fun q hq => ?_, fun k hk2 => ?_, i4⟩
  · by_cases e : q = many
    · subst e
      rw [h1, h2, if_pos rfl, if_pos rfl]
      simp only [if_true]
      exact ⟨hyh, hz, Or.inr ⟨by omega, kc, jc, hk, hp, hj, by omega, hy⟩⟩
    · rw [h1, h2, if_neg e, if_neg e]
      simp only [if_neg e]
      exact i2 q (by omega)
  · obtain ⟨r1, r2, r3, r4, r5, r6⟩ := i3 k hk2
    refine ⟨r1, r2, r3, r4, r5, fun j hj2 hjc => ?_⟩
    by_cases e : k + j = kc + jc
    · have e1 := r5 j hj2
      have e2 := (i3 kc hk).2.2.2.2.1 jc hj
      rw [e, e2] at e1
      subst e1
      have ej : j = jc := by omega
      subst ej
      rw [hg, if_pos rfl, hy]
      refine ⟨fun _ => rfl, fun hp2 => Or.inl ⟨many, by omega, ?_, ?_⟩⟩
      · rw [h2, if_pos rfl]
      · rw [h1, if_pos rfl]
    · rw [hg, if_neg e]
      obtain ⟨y1, y2⟩ := r6 j hj2 (fun z => by have := hjc z; subst z; omega)
      refine ⟨y1, fun hp2 => ?_⟩
      rcases y2 hp2 with ⟨q, q1, q2, q3⟩ | y2
      · exact Or.inl ⟨q, by omega, by rw [h2, if_neg (by omega)]; exact q2, by rw [h1, if_neg (by omega)]; exact q3⟩
      · exact Or.inr y2
theorem CPI_out (i : CPI hS nS owS kdS Fv P f n0 g cur many kc jc sk at' c st src oo) (h : jc = blk hS (src kc)) : CPI hS nS owS kdS Fv P f n0 g cur many cur 0 sk at' c st src oo := by
  obtain ⟨i1, i2, i3, i4⟩ := i
  refine ⟨i1, i2, fun k hk => ?_, i4⟩
  obtain ⟨r1, r2, r3, r4, r5, r6⟩ := i3 k hk
  exact ⟨r1, r2, r3, r4, r5, fun j hj _ => r6 j hj (fun z => by subst z; omega)⟩
theorem CPI_end {hD : Nat → Int64} {owD kdD : Nat → Nat} (gS : HP hS nS owS kdS Fv P) (gD : HP hD n0 owD kdD Fv P) (i : CPI hS nS owS kdS Fv P f n0 g cur 0 cur 0 sk at' c st src oo) (hg : ∀ z, z < n0 → g z = hD z) :
    ∃ ow2 kd2, HP g cur ow2 kd2 Fv P ∧ (∀ t, GT n0 owD kdD P t → GT cur ow2 kd2 P t) ∧ (∀ f2 t s, SZ hD n0 owD kdD Fv P f2 t s → SZ g cur ow2 kd2 Fv P f2 t s) ∧ (∀ f2 d y s, DST st src d y → SZ hS nS owS kdS Fv P f2 y s → SZ g cur ow2 kd2 Fv P f2 d s) ∧ ∀ z, z < n0 → ow2 z = owD z := by
  obtain ⟨i1, i2, i3, i4⟩ := i
  have ext : ∀ f2 t s, SZ hD n0 owD kdD Fv P f2 t s → SZ g cur (fun z => if n0 ≤ z then oo z else owD z) (fun z => if n0 ≤ z then (so (src z)).toNat else kdD z) Fv P f2 t s := fun f2 t s z =>
    SZ_ext i1 hg (fun q hq => if_neg (by omega)) (fun q hq => if_neg (by omega)) (fun _ _ q => q) (fun _ q => q) z
  have cells : ∀ k, st k → ∀ j, j < blk hS (src k) → (j < prt (src k) → g (k + j) = hS (vn (src k) + j)) ∧ (prt (src k) ≤ j → DST st src (g (k + j)) (hS (vn (src k) + j))) := fun k hk j hj => by
    obtain ⟨r1, r2, r3, r4, r5, r6⟩ := i3 k hk
    have bp := blk_pos (h := hS) r3
    obtain ⟨y1, y2⟩ := r6 j hj (fun z => by omega)
    refine ⟨y1, fun z => ?_⟩
    rcases y2 z with ⟨q, q1, -⟩ | y2
    · omega
    · exact y2
  have szd : ∀ f2 d y s, DST st src d y → SZ hS nS owS kdS Fv P f2 y s → SZ g cur (fun z => if n0 ≤ z then oo z else owD z) (fun z => if n0 ≤ z then (so (src z)).toNat else kdD z) Fv P f2 d s := by
    intro f2
    induction f2 with
    | zero => intro d y s _ z; exact z.elim
    | succ f2 ih =>
      intro d y s hd z
      rcases hd with ⟨d1, d2⟩ | ⟨d1, d2, d3, d4, d5⟩
      · subst d2
        rcases z with z | ⟨z, -⟩
        · exact Or.inl z
        · exact absurd z d1
      · rcases z with ⟨z, -⟩ | ⟨-, b, cc, z3, z4⟩
        · exact absurd d1 z
        obtain ⟨r1, r2, r3, r4, r5, r6⟩ := i3 _ d4
        have cl := cells _ d4
        rw [d5] at r2 r5 cl
        have ep : prt d = prt y := prt_so d2
        have bp := blk_pos (h := hS) d1
        have pl := prt_le (h := hS) d1
        have eb : blk g d = blk hS y := by
          unfold blk
          rw [d2]
          rcases d1 with e | e | e
          · rw [e]; simp
            have := (cl 1 (by unfold blk; rw [e]; simp; omega)).1 (by unfold prt; rw [e]; decide)
            rw [this]
          · rw [e]; simp
            have := (cl 0 bp).1 (by unfold prt; rw [e]; decide)
            rw [show vn d + 0 = vn d from rfl, show vn y + 0 = vn y from rfl] at this
            rw [this]
          · rw [e]; simp
        have hso : 0 ≤ so y := by rcases d1 with e | e | e <;> omega
        refine Or.inr ⟨by unfold isH; rw [d2]; exact d1, ⟨d3, fun e => ?_, fun e => ?_, by rw [eb]; omega, ?_, ?_⟩, cc, ?_, ?_⟩
        · rw [d2] at e
          have := (cl 0 bp).1 (by unfold prt; rw [e]; decide)
          rw [show vn d + 0 = vn d from rfl, show vn y + 0 = vn y from rfl] at this
          rw [this]; exact b.2.1 e
        · rw [d2] at e
          have q0 := (cl 0 bp).1 (by unfold prt; rw [e]; decide)
          have q1 := (cl 1 (by unfold blk; rw [e]; simp; omega)).1 (by unfold prt; rw [e]; decide)
          rw [show vn d + 0 = vn d from rfl, show vn y + 0 = vn y from rfl] at q0
          rw [q0, q1]; exact b.2.2.1 e
        · show ((if n0 ≤ vn d then (so (src (vn d))).toNat else kdD (vn d) : Nat) : Int) = so d
          rw [if_pos r1, d5, d2]; omega
        · rw [eb]
          intro j hj
          show (if n0 ≤ vn d + j then oo (vn d + j) else _) = vn d
          rw [if_pos (by omega)]; exact r5 j hj
        · rw [eb, ep]
          intro j a b2
          exact ih _ _ _ ((cl j b2).2 a) (z3 j a b2)
        · rw [eb, ep]; exact z4
  refine ⟨_, _, ?_, fun t gt => ?_, ext, szd, fun z hz => if_neg (by omega)⟩
  · intro t ht gt
    rcases gt with ⟨z, -⟩ | ⟨-, g1, g2, g3, g4⟩
    · exact absurd ht z
    by_cases e : vn t < n0
    · have e1 : owD (vn t) = vn t := by have := g3; simp only [if_neg (show ¬ n0 ≤ vn t by omega)] at this; exact this
      have e2 : (kdD (vn t) : Int) = so t := by have := g4; simp only [if_neg (show ¬ n0 ≤ vn t by omega)] at this; exact this
      have gt0 : GT n0 owD kdD P t := Or.inr ⟨ht, g1, e, e1, e2⟩
      obtain ⟨f2, s, z1, z2⟩ := gD t ht gt0
      refine ⟨f2, s, ext _ _ _ z1, fun h5 => ?_⟩
      obtain ⟨q1, q2, q3⟩ := z2 h5
      have bn := (HP_bk gD ht gt0).1.2.2.2.1
      have r1 : blk g t = 3 := by
        have q2' := q2
        unfold blk at q2' ⊢
        rw [q1] at q2' ⊢
        simp at q2' ⊢
        rw [hg _ e]; exact q2'
      exact ⟨q1, r1, by rw [hg _ (by omega)]; exact q3⟩
    · have e1 : oo (vn t) = vn t := by have := g3; simp only [if_pos (show n0 ≤ vn t by omega)] at this; exact this
      have e2 : (((so (src (vn t))).toNat : Nat) : Int) = so t := by have := g4; simp only [if_pos (show n0 ≤ vn t by omega)] at this; exact this
      obtain ⟨k, j, k1, k2, k3⟩ := i4 (vn t) (by omega) g2
      have ek : vn t = k := by have := (i3 k k1).2.2.2.2.1 j k2; rw [← k3, e1] at this; exact this
      rw [← ek] at k1 k2
      obtain ⟨r1, r2, r3, r4, r5, r6⟩ := i3 _ k1
      have hso : 0 ≤ so (src (vn t)) := by rcases r3 with e | e | e <;> omega
      have hd : DST st src t (src (vn t)) := Or.inr ⟨r3, by omega, g1, k1, rfl⟩
      obtain ⟨f2, s, z1, z2⟩ := gS _ r3 r4
      have sz := szd f2 t _ s hd z1
      refine ⟨f2, s, sz, fun h5 => ?_⟩
      obtain ⟨q1, q2, q3⟩ := z2 h5
      have cl := cells _ k1
      have es : so t = so (src (vn t)) := by omega
      have c0 := (cl 0 (by omega)).1 (by unfold prt; rw [q1]; decide)
      rw [show vn t + 0 = vn t from rfl, show vn (src (vn t)) + 0 = vn (src (vn t)) from rfl] at c0
      refine ⟨by rw [es]; exact q1, ?_, ?_⟩
      · have q2' := q2
        unfold blk at q2' ⊢
        rw [es]
        rw [q1] at q2' ⊢
        simp at q2' ⊢
        rw [c0]; exact q2'
      · rcases (cl 1 (by omega)).2 (by unfold prt; rw [q1]; decide) with ⟨-, y2⟩ | ⟨y, -⟩
        · rw [y2]; exact q3
        · exact absurd y q3
  · rcases gt with z | ⟨z1, z2, z3, z4, z5⟩
    · exact Or.inl z
    · refine Or.inr ⟨z1, z2, by omega, ?_, ?_⟩
      · show (if n0 ≤ vn t then oo (vn t) else owD (vn t)) = vn t
        rw [if_neg (by omega)]; exact z4
      · show ((if n0 ≤ vn t then (so (src (vn t))).toNat else kdD (vn t) : Nat) : Int) = so t
        rw [if_neg (by omega)]; exact z5
end
end
section
theorem smm_ge {c : Nat → Nat} : ∀ {m : Nat}, (∀ i, i < m → 1 ≤ c i) → m ≤ smm c 0 m
  | 0, _ => Nat.le_refl _
  | m + 1, h => by
    show m + 1 ≤ smm c 0 m + c (0 + m)
    have := smm_ge (c := c) (m := m) (fun i hi => h i (by omega))
    have := h m (by omega)
    rw [Nat.zero_add]; omega
theorem blk_2 {h : Nat → Int64} {x : Int64} (e : so x = 3) : 2 ≤ blk h x := by unfold blk; rw [e]; simp
section
variable {hS : Nat → Int64} {nS f n0 fr to s N : Nat} {owS kdS : Nat → Nat} {Fv : Int64 → Int64 → Prop} {P : Int64 → Prop} {u : MS} {t : Int64}
theorem SZ_pos {x : Int64} {k : Nat} (hx : isH x) (z : SZ hS nS owS kdS Fv P f x k) : 1 ≤ k := by
  cases f with
  | zero => exact z.elim
  | succ f =>
    rcases z with ⟨z, -⟩ | ⟨-, -, c, -, z⟩
    · exact absurd hx z
    · have := blk_pos (h := hS) hx; omega
def CPQ (u : MS) (hS : Nat → Int64) (nS : Nat) (owS kdS : Nat → Nat) (Fv : Int64 → Int64 → Prop) (P : Int64 → Prop) (f n0 to s : Nat) (t : Int64) (w : MS) (r : Int64) : Prop :=
  FR [] [] [89, 142] [88, 141] u w ∧ (∀ q, A w 89 q = if q = to then ((n0 + s : Nat) : Int) else A u 89 q) ∧ (∀ i, ¬ (500 * to + n0 ≤ i ∧ i < 500 * to + 500) → w.2.2.2 88 i = u.2.2.2 88 i) ∧ ∃ c st src oo, CPI hS nS owS kdS Fv P f n0 (hp w to) (n0 + s) 0 (n0 + s) 0 (w.2.2.2 141) (A w 142) c st src oo ∧ DST st src r t
theorem cp_loop (h1 : fr < 25) (h2 : to < 25) (hnS : nS ≤ 500) (hs : n0 + s ≤ 500) (hft : fr = to → nS ≤ n0) (gS : HP hS nS owS kdS Fv P) (ht : isH t) : ∀ (m : Nat),
    (∀ (w : MS) (many cur : Nat) (c : Nat → Nat) (st : Nat → Prop) (src : Nat → Int64) (oo : Nat → Nat), CPI hS nS owS kdS Fv P f n0 (hp w to) cur many cur 0 (w.2.2.2 141) (A w 142) c st src oo → A w 89 to = cur → cur + smm c 0 many = n0 + s → (∀ i, i < nS → hp w fr i = hS i) → FR [] [] [89, 142] [88, 141] u w → (∀ q, q ≠ to → A w 89 q = A u 89 q) → (∀ i, ¬ (500 * to + n0 ≤ i ∧ i < 500 * to + 500) → w.2.2.2 88 i = u.2.2.2 88 i) → ((many = 1 ∧ cur = n0 ∧ w.2.2.2 141 0 = t ∧ A w 142 0 = -1) ∨ (st n0 ∧ src n0 = t ∧ ∀ i, i < many → A w 142 i ≠ -1)) → 5 * smm c 0 many < m → OK (CPQ u hS nS owS kdS Fv P f n0 to s t) ((gg_M_copy N m).1 w (I fr) (I to) (rp t n0) (I many))) ∧
    (∀ (w : MS) (many cur kc j : Nat) (c d : Nat → Nat) (st : Nat → Prop) (src : Nat → Int64) (oo : Nat → Nat) (x : Int64), CPI hS nS owS kdS Fv P f n0 (hp w to) cur many kc j (w.2.2.2 141) (A w 142) c st src oo → st kc → src kc = x → j ≤ blk hS x → (∀ i, j ≤ i → i < blk hS x → prt x ≤ i → SZ hS nS owS kdS Fv P f (hS (vn x + i)) (d i)) → (∀ i, i < prt x → d i = 0) → A w 89 to = cur → cur + smm c 0 many + smm d j (blk hS x - j) = n0 + s → (∀ i, i < nS → hp w fr i = hS i) → FR [] [] [89, 142] [88, 141] u w → (∀ q, q ≠ to → A w 89 q = A u 89 q) → (∀ i, ¬ (500 * to + n0 ≤ i ∧ i < 500 * to + 500) → w.2.2.2 88 i = u.2.2.2 88 i) → (st n0 ∧ src n0 = t ∧ ∀ i, i < many → A w 142 i ≠ -1) → 5 * smm c 0 many + 5 * smm d j (blk hS x - j) + (blk hS x - j) + 1 < m → OK (CPQ u hS nS owS kdS Fv P f n0 to s t) ((gg_M_copy N m).2 w (I fr) (I to) (rp t n0) (I many) x (I (blk hS x)) (I kc) (I j))) := by
  intro m
  induction m with
  | zero => exact ⟨fun w many cur c st src oo _ _ _ _ _ _ _ _ z => absurd z (Nat.not_lt_zero _), fun w many cur kc j c d st src oo x _ _ _ _ _ _ _ _ _ _ _ _ _ z => absurd z (Nat.not_lt_zero _)⟩
  | succ m ih =>
    obtain ⟨ih1, ih2⟩ := ih
    refine ⟨fun w many cur c st src oo ci e89 hsum hsrc hf h89 h88 hr hm => ?_, fun w many cur kc j c d st src oo x ci hk hx hj hd hd0 e89 hsum hsrc hf h89 h88 hr hm => ?_⟩
    · show OK _ (fb_M_copy_42 N (gg_M_copy N m) w (I fr) (I to) (rp t n0) (I many))
      unfold fb_M_copy_42
      have hmany : many ≤ smm c 0 many := smm_ge (fun i hi => SZ_pos (ci.2.1 i hi).1 (ci.2.1 i hi).2.1)
      rw [lit0q, decI (by omega) (by omega) (by omega) (by omega)]
      cases many with
      | zero =>
        rw [decide_eq_true (by omega), br_tq]
        have ec : cur = n0 + s := by rw [← hsum]; rfl
        subst ec
        rcases hr with ⟨z, -⟩ | ⟨r1, r2, -⟩
        · omega
        refine ok_some.mpr ⟨hf, fun q => ?_, h88, c, st, src, oo, ci, Or.inr ⟨ht, ?_, ?_, ?_, ?_⟩⟩
        · by_cases e : q = to
          · rw [if_pos e, e]; exact e89
          · rw [if_neg e]; exact h89 q e
        · exact so_rp (by omega) (by omega)
        · rw [va_rp (by omega) (by omega)]; omega
        · have : vn (rp t n0) = n0 := by unfold vn; rw [va_rp (by omega) (by omega)]; omega
          rw [this]; exact r1
        · have : vn (rp t n0) = n0 := by unfold vn; rw [va_rp (by omega) (by omega)]; omega
          rw [this]; exact r2
      | succ many =>
        have hlast : smm c 0 (many + 1) = smm c 0 many + c many := by show smm c 0 many + c (0 + many) = _; rw [Nat.zero_add]
        rw [decide_eq_false (by omega), br_fq, litm1q, I_add, show ((many + 1 : Nat) : Int) + -1 = (many : Int) from by omega]
        rw [inb_at (k := 141) (n := 3000) rfl (by omega) (by omega) (by decide), ck_t, lt_e, I_tn (by omega) (by omega), Int.toNat_natCast, inb_at (k := 142) (n := 3000) rfl (by omega) (by omega) (by decide), ck_t, lt_e]
        generalize hxx : w.2.2.2 141 many = x
        generalize hat : A w 142 many = a
        obtain ⟨s1, s2, s3⟩ := ci.2.1 many (by omega)
        rw [hxx] at s1 s2 s3
        rw [hat] at s3
        obtain ⟨f', hf'⟩ : ∃ f', f = f' + 1 := by cases f with | zero => exact s2.elim | succ f' => exact ⟨f', rfl⟩
        subst hf'
        rcases s2 with ⟨z, -⟩ | ⟨-, b, d, z3, z4⟩
        · exact absurd s1 z
        have bp := blk_pos (h := hS) s1
        have pl := prt_le (h := hS) s1
        have bn := b.2.2.2.1
        have hgeq : ∀ i, i < nS → hp w fr i = hS i := hsrc
        have bkw : BK (hp w fr) nS owS kdS Fv x := by
          obtain ⟨b1, b2, b3, b4, b5, b6⟩ := b
          have e0 : hp w fr (vn x) = hS (vn x) := hgeq _ (by omega)
          have e1 : so x = 3 → hp w fr (vn x + 1) = hS (vn x + 1) := fun e => hgeq _ (by have := blk_2 (h := hS) e; omega)
          have eb : blk (hp w fr) x = blk hS x := by
            unfold blk
            rw [e0]
            by_cases e : so x = 3
            · rw [e1 e]
            · simp [e]
          exact ⟨b1, fun e => by rw [e0]; exact b2 e, fun e => by rw [e0, e1 e]; exact b3 e, by rw [eb]; exact b4, b5, by rw [eb]; exact b6⟩
        have eb : blk (hp w fr) x = blk hS x := by
          have e0 : hp w fr (vn x) = hS (vn x) := hgeq _ (by omega)
          unfold blk
          rw [e0]
          by_cases e : so x = 3
          · rw [hgeq (vn x + 1) (by have := blk_2 (h := hS) e; omega)]
          · simp [e]
        rw [sizeOf_e h1 hnS s1 bkw, bnd_so, eb, inb_at (k := 89) (n := 25) rfl (by omega) (by omega) (by decide), ck_t, lt_e, ck_t, ck_t, lt_e, I_tn (by omega) (by omega), Int.toNat_natCast, I_A' e89, I_add, wa_e, I_A, hat, decE (by have := A_r w 142 many; omega) (by have := A_r w 142 many; omega) (by omega) (by omega)]
        have hbl : c many = blk hS x + smm (fun i => if i < prt x then 0 else d i) 0 (blk hS x) := by
          rw [z4]
          congr 1
          have key : ∀ q, smm (fun i => if i < prt x then 0 else d i) 0 (prt x + q) = smm d (prt x) q := by
            intro q
            induction q with
            | zero =>
              have : ∀ r, r ≤ prt x → smm (fun i => if i < prt x then 0 else d i) 0 r = 0 := by
                intro r
                induction r with
                | zero => intro _; rfl
                | succ r ir =>
                  intro hr2
                  show smm _ 0 r + (if 0 + r < prt x then 0 else d (0 + r)) = 0
                  rw [ir (by omega), if_pos (by omega)]
              exact this (prt x) (Nat.le_refl _)
            | succ q iq =>
              show smm _ 0 (prt x + q) + (if 0 + (prt x + q) < prt x then 0 else d (0 + (prt x + q))) = smm d (prt x) q + d (prt x + q)
              rw [iq, if_neg (by omega), Nat.zero_add]
          have := key (blk hS x - prt x)
          rw [show prt x + (blk hS x - prt x) = blk hS x from by omega] at this
          exact this.symm
        have hz3 : ∀ i, 0 ≤ i → i < blk hS x → prt x ≤ i → SZ hS nS owS kdS Fv P (f' + 1) (hS (vn x + i)) ((fun i => if i < prt x then 0 else d i) i) := fun i _ hi hp2 => by
          show SZ _ _ _ _ _ _ _ _ (if i < prt x then 0 else d i)
          rw [if_neg (by omega)]
          exact SZ_mono (z3 i hp2 hi)
        have hr89 : ∀ q, q ≠ to → A (wa w 89 to ((cur : Int) + (blk hS x : Int))) 89 q = A u 89 q := fun q hq => by rw [A_wa (by omega) (by omega), if_pos rfl, if_neg hq]; exact h89 q hq
        have hroot : (st n0 ∨ n0 = cur) ∧ (if n0 = cur then x else src n0) = t ∧ ∀ i, i < many → A w 142 i ≠ -1 := by
          rcases hr with ⟨r1, r2, r3, r4⟩ | ⟨r1, r2, r3⟩
          · have em : many = 0 := by omega
            subst em
            exact ⟨Or.inr r2.symm, by rw [if_pos r2.symm, ← hxx]; exact r3, fun i hi => absurd hi (Nat.not_lt_zero _)⟩
          · have : n0 < cur := by
              obtain ⟨-, q2, q3, -⟩ := ci.2.2.1 n0 r1
              have := blk_pos (h := hS) q3
              omega
            exact ⟨Or.inl r1, by rw [if_neg (by omega)]; exact r2, fun i hi => r3 i (by omega)⟩
        by_cases ea : a = -1
        · rw [decide_eq_true ea, br_tq]
          unfold fb_M_copy_128
          rw [lit0q]
          have cp := CPI_pop (g2 := hp w to) ci hxx hat (fun j => ⟨fun z => absurd ea z.1, fun _ => rfl⟩)
          exact ih2 (wa w 89 to ((cur : Int) + (blk hS x : Int))) many (cur + blk hS x) cur 0 c _ _ _ _ x cp (Or.inr rfl) (if_pos rfl) (Nat.zero_le _) hz3 (fun i hi => if_pos hi) (by rw [A_wa (by omega) (by omega), if_pos rfl, if_pos rfl]; omega) (by rw [Nat.sub_zero]; omega) hsrc (FR.wa hf (by decide)) hr89 h88 hroot (by rw [Nat.sub_zero]; omega)
        · rw [decide_eq_false ea, br_fq]
          rcases s3 with s3 | ⟨s3, k', j', t4, t5, t6, t7, t8⟩
          · exact absurd s3 ea
          obtain ⟨q1, q2, -⟩ := ci.2.2.1 k' t4
          have ha5 : n0 ≤ a.toNat ∧ a.toNat < cur := by omega
          rw [lit500, I_mul, I_add, inb_at (k := 88) (n := 12500) rfl (by omega) (by omega) (by decide), ck_t, lt_e, I_tn (by omega) (by omega), show ((to : Int) * 500 + a).toNat = 500 * to + a.toNat from by omega]
          rw [show (x &&& -4294967296) ||| (I (cur : Int)).toInt64 = rp x cur from rfl, wj_e]
          unfold fb_M_copy_128
          rw [lit0q]
          have cp := CPI_pop (g2 := hp (wj (wa w 89 to ((cur : Int) + (blk hS x : Int))) 88 (500 * to + a.toNat) (rp x cur)) to) ci hxx hat (fun j => by
            unfold hp
            rw [J_wj, if_pos rfl]
            refine ⟨fun z => ?_, fun z => ?_⟩
            · rw [if_pos (by omega)]; exact ⟨so_rp (by omega) (by omega), va_rp (by omega) (by omega)⟩
            · rw [if_neg (fun e => z ⟨ea, by omega⟩)]; rfl)
          have cp' := cp
          have e141 : (wj (wa w 89 to ((cur : Int) + (blk hS x : Int))) 88 (500 * to + a.toNat) (rp x cur)).2.2.2 141 = w.2.2.2 141 := wj_ne (show 141 ≠ 88 by decide)
          rw [← e141] at cp'
          refine ih2 (wj (wa w 89 to ((cur : Int) + (blk hS x : Int))) 88 (500 * to + a.toNat) (rp x cur)) many (cur + blk hS x) cur 0 c _ _ _ _ x cp' (Or.inr rfl) (if_pos rfl) (Nat.zero_le _) hz3 (fun i hi => if_pos hi) (by rw [A_wj, A_wa (by omega) (by omega), if_pos rfl, if_pos rfl]; omega) (by rw [Nat.sub_zero]; omega) (fun i hi => ?_) (FR.wj (FR.wa hf (by decide)) (by decide)) hr89 (fun i hi => ?_) hroot (by rw [Nat.sub_zero]; omega)
          · unfold hp
            rw [J_wj, if_pos rfl, if_neg (fun e => ?_)]
            · exact hsrc i hi
            · by_cases eft : fr = to
              · have := hft eft; omega
              · omega
          · rw [J_wj, if_pos rfl, if_neg (by omega)]; exact h88 i hi
    · show OK _ (fb_M_copy_131 N (gg_M_copy N m) w (I fr) (I to) (rp t n0) (I many) x (I (blk hS x)) (I kc) (I j))
      unfold fb_M_copy_131
      subst hx
      obtain ⟨r1, r2, r3, r4, r5, r6⟩ := ci.2.2.1 kc hk
      have bk := (HP_bk gS r3 r4).1
      have bn := bk.2.2.2.1
      have hmany : many ≤ smm c 0 many := smm_ge (fun i hi => SZ_pos (ci.2.1 i hi).1 (ci.2.1 i hi).2.1)
      rw [decI (by omega) (by omega) (by omega) (by omega)]
      by_cases ej : blk hS (src kc) ≤ j
      · rw [decide_eq_true (by omega), br_tq]
        have e0 : blk hS (src kc) - j = 0 := by omega
        rw [e0] at hsum hm
        exact ih1 w many cur c st src oo (CPI_out ci (by omega)) e89 (by rw [← hsum]; rfl) hsrc hf h89 h88 (Or.inr hr) (by omega)
      rw [decide_eq_false (by omega), br_fq, valueOf_e, bnd_so]
      obtain ⟨q, hq⟩ : ∃ q, blk hS (src kc) - j = q + 1 := ⟨blk hS (src kc) - j - 1, by omega⟩
      have hq2 : blk hS (src kc) - (j + 1) = q := by omega
      rw [hq, smm_split] at hsum hm
      have ev : va (src kc) = (vn (src kc) : Int) := by have := bk.1; unfold vn; omega
      rw [ev, I_add, show (vn (src kc) : Int) + (j : Int) = ((vn (src kc) + j : Nat) : Int) from by omega, cell_e h1 (by omega), bnd_so, hsrc _ (by omega)]
      generalize hy : hS (vn (src kc) + j) = y
      rw [lit500, I_mul, I_add, I_add, inb_at (k := 88) (n := 12500) rfl (by omega) (by omega) (by decide), ck_t, lt_e, I_tn (by omega) (by omega), show ((to : Int) * 500 + (kc : Int) + (j : Int)).toNat = 500 * to + (kc + j) from by omega, wj_e, partsFrom_e r3, bnd_so, decL (by omega) (by have := prt_le (h := hS) r3; omega) (by omega) (by have := prt_le (h := hS) r3; omega)]
      have hg2 : ∀ z, hp (wj w 88 (500 * to + (kc + j)) y) to z = if z = kc + j then y else hp w to z := fun z => by
        unfold hp
        rw [J_wj, if_pos rfl]
        by_cases e : z = kc + j
        · rw [if_pos (by omega), if_pos e]
        · rw [if_neg (by omega), if_neg e]
      have hsrc2 : ∀ i, i < nS → hp (wj w 88 (500 * to + (kc + j)) y) fr i = hS i := fun i hi => by
        unfold hp
        rw [J_wj, if_pos rfl, if_neg (fun e => ?_)]
        · exact hsrc i hi
        · by_cases eft : fr = to
          · have := hft eft; omega
          · omega
      have h882 : ∀ i, ¬ (500 * to + n0 ≤ i ∧ i < 500 * to + 500) → (wj w 88 (500 * to + (kc + j)) y).2.2.2 88 i = u.2.2.2 88 i := fun i hi => by
        rw [J_wj, if_pos rfl, if_neg (by omega)]; exact h88 i hi
      have plain : (j < prt (src kc) ∨ ¬ isH y) → OK (CPQ u hS nS owS kdS Fv P f n0 to s t) (fb_M_copy_214 N (gg_M_copy N m) (wj w 88 (500 * to + (kc + j)) y) (I fr) (I to) (rp t n0) (I many) (src kc) (I (blk hS (src kc))) (I kc) (I j)) := by
        intro hpl
        unfold fb_M_copy_214
        rw [lit1q, I_add]
        have dj : d j = 0 := by
          rcases hpl with z | z
          · exact hd0 j z
          · by_cases z2 : prt (src kc) ≤ j
            · have sz := hd j (Nat.le_refl _) (by omega) z2
              rw [hy] at sz
              cases f with
              | zero => exact sz.elim
              | succ f =>
                rcases sz with ⟨-, -, w⟩ | ⟨w, -⟩
                · exact w
                · exact absurd w z
            · exact hd0 j (by omega)
        have cc := CPI_cell ci hk (by omega) hy hg2 hpl
        refine ih2 (wj w 88 (500 * to + (kc + j)) y) many cur kc (j + 1) c d st src oo (src kc) ?_ hk rfl (by omega) (fun i a b2 c2 => hd i (by omega) b2 c2) hd0 e89 (by rw [hq2]; omega) hsrc2 (FR.wj hf (by decide)) h89 h882 hr (by rw [hq2]; omega)
        rw [wj_ne (show 141 ≠ 88 by decide)]; exact cc
      by_cases hp2 : j < prt (src kc)
      · rw [decide_eq_true (by omega), br_tq]
        exact plain (Or.inl hp2)
      rw [decide_eq_false (by omega), br_fq]
      by_cases hyh : isH y
      · rw [inHeap_e.1 hyh, bnd_so, lit0q, decE (by omega) (by omega) (by omega) (by omega), decide_eq_false (by omega), br_fq]
        have sz := hd j (Nat.le_refl _) (by omega) (by omega)
        rw [hy] at sz
        have dp := SZ_pos hyh sz
        rw [inb_at (k := 141) (n := 3000) rfl (by omega) (by omega) (by decide), ck_t, lt_e, I_tn (by omega) (by omega), Int.toNat_natCast, wj_e, inb_at (k := 142) (n := 3000) rfl (by omega) (by omega) (by decide), ck_t, lt_e, I_add, wa_e]
        unfold fb_M_copy_214
        rw [lit1q, I_add, I_add]
        have cc := CPI_push (sk2 := (wa (wj (wj w 88 (500 * to + (kc + j)) y) 141 many y) 142 many ((kc : Int) + (j : Int))).2.2.2 141) (at2 := A (wa (wj (wj w 88 (500 * to + (kc + j)) y) 141 many y) 142 many ((kc : Int) + (j : Int))) 142) ci hk (by omega) (by omega) hy hyh sz hg2 (fun q => by
          rw [J_wa, J_wj, if_pos rfl, wj_ne (show 141 ≠ 88 by decide)]) (fun q => by
          rw [A_wa (by omega) (by omega), if_pos rfl]
          by_cases e : q = many
          · rw [if_pos e, if_pos e]; omega
          · rw [if_neg e, if_neg e]; rfl)
        refine ih2 (wa (wj (wj w 88 (500 * to + (kc + j)) y) 141 many y) 142 many ((kc : Int) + (j : Int))) (many + 1) cur kc (j + 1) (fun q => if q = many then d j else c q) d st src oo (src kc) cc hk rfl (by omega) (fun i a b2 c2 => hd i (by omega) b2 c2) hd0 (by rw [A_wa (by omega) (by omega), if_neg (by decide)]; exact e89) (by rw [smm_upd, hq2]; omega) hsrc2 (FR.wa (FR.wj (FR.wj hf (by decide)) (by decide)) (by decide)) (fun q hq => by rw [A_wa (by omega) (by omega), if_neg (by decide)]; exact h89 q hq) h882 ⟨hr.1, hr.2.1, fun i hi => ?_⟩ (by rw [smm_upd, hq2]; omega)
        rw [A_wa (by omega) (by omega), if_pos rfl]
        by_cases e : i = many
        · rw [if_pos e]; omega
        · rw [if_neg e]; exact hr.2.2 i (by omega)
      · rw [inHeap_e.2 hyh, bnd_so, lit0q, decE (by omega) (by omega) (by omega) (by omega), decide_eq_true rfl, br_tq]
        exact plain (Or.inr hyh)
theorem copy_ok (h1 : fr < 25) (h2 : to < 25) (hnS : nS ≤ 500) (hs : n0 + s ≤ 500) (hft : fr = to → nS ≤ n0) (gS : HP (hp u fr) nS owS kdS Fv P) (z : SZ (hp u fr) nS owS kdS Fv P f t s) (hu : A u 89 to = n0) (hN : 3000 ≤ N) : OK (CPQ u (hp u fr) nS owS kdS Fv P f n0 to s t) (fm_M_copy N u (I fr) t (I to)) := by
  unfold fm_M_copy fb_M_copy_0
  by_cases ht : isH t
  · rw [inHeap_e.1 ht, bnd_so, lit0q, decE (by omega) (by omega) (by omega) (by omega), decide_eq_false (by omega), br_fq, inb_at (k := 89) (n := 25) rfl (by omega) (by omega) (by decide), ck_t, lt_e, I_tn (x := (to : Int)) (by omega) (by omega), Int.toNat_natCast, I_A' hu, inb_at (k := 141) (n := 3000) rfl (by omega) (by omega) (by decide), ck_t, lt_e, I_tn (by omega) (by omega), wj_e, inb_at (k := 142) (n := 3000) rfl (by omega) (by omega) (by decide), ck_t, lt_e, litm1q, wa_e, lit1q]
    refine (cp_loop (N := N) (u := u) (f := f) h1 h2 hnS hs hft gS ht N).1 (wa (wj u 141 0 t) 142 0 (-1)) 1 n0 (fun _ => s) (fun _ => False) (fun _ => 0) (fun _ => 0) ⟨Nat.le_refl _, fun i hi => ?_, fun k hk => hk.elim, fun x a b => by omega⟩ (by rw [A_wa (by omega) (by omega), if_neg (by decide)]; exact hu) (by show n0 + (0 + s) = _; omega) (fun i hi => rfl) (FR.wa (FR.wj FR.rf (by decide)) (by decide)) (fun q hq => by rw [A_wa (by omega) (by omega), if_neg (by decide)]; rfl) (fun i hi => by rw [J_wa, J_wj, if_neg (by decide)]) (Or.inl ⟨rfl, rfl, by rw [J_wa, J_wj, if_pos rfl, if_pos rfl], by rw [A_wa (by omega) (by omega), if_pos rfl, if_pos rfl]⟩) (by show 5 * (0 + s) < N; omega)
    have e : i = 0 := by omega
    subst e
    rw [J_wa, J_wj, if_pos rfl, if_pos rfl, A_wa (by omega) (by omega), if_pos rfl, if_pos rfl]
    exact ⟨ht, z, Or.inl rfl⟩
  · rw [inHeap_e.2 ht, bnd_so, lit0q, decE (by omega) (by omega) (by omega) (by omega), decide_eq_true rfl, br_tq]
    have e0 : s = 0 := by
      cases f with
      | zero => exact z.elim
      | succ f =>
        rcases z with ⟨-, -, w⟩ | ⟨w, -⟩
        · exact w
        · exact absurd w ht
    subst e0
    refine ok_some.mpr ⟨FR.rf, fun q => ?_, fun _ _ => rfl, fun _ => 0, fun _ => False, fun _ => 0, fun _ => 0, ⟨Nat.le_refl _, fun i hi => absurd hi (Nat.not_lt_zero _), fun k hk => hk.elim, fun x a b => by omega⟩, Or.inl ⟨ht, rfl⟩⟩
    by_cases e : q = to
    · rw [if_pos e, e]; exact hu
    · rw [if_neg e]
end
end
section
def FVH (Fv : Int64 → Int64 → Prop) : Prop := (∀ a b, Fv a b → -100000 < a.toInt ∧ a.toInt < 100000) ∧ (∀ a b c, Fv a b → Fv a c → va b = va c)
def ATM (w : MS) : Prop := 0 ≤ F w 14 ∧ F w 14 ≤ 2199 ∧ ∀ k : Nat, (k : Int) < F w 14 → 0 ≤ A w 13 k ∧ A w 13 k ≤ A w 13 (k + 1) ∧ A w 13 (k + 1) ≤ 5000
def PA (w : MS) (t : Int64) : Prop := so t = 1 → 0 ≤ va t ∧ va t < F w 14
theorem cmp_e {N : Nat} {u : MS} {a b : Int64} : ∃ r : Int, -1 ≤ r ∧ r ≤ 1 ∧ fm_M_compare N u a b = some (u, I r) ∧ (r = 0 → a = b) := by
  unfold fm_M_compare fb_M_compare_0 fb_M_compare_21 lg_cmp
  by_cases h1 : a > b
  · refine ⟨1, by omega, by omega, ?_, fun z => by omega⟩
    rw [if_pos h1]
    rfl
  · rw [if_neg h1]
    by_cases h2 : a = b
    · refine ⟨0, by omega, by omega, ?_, fun _ => h2⟩
      rw [if_pos h2]
      rfl
    · refine ⟨-1, by omega, by omega, ?_, fun z => by omega⟩
      rw [if_neg h2]
      rfl
theorem lgc_ge (x : Int64) : (0 ≤ lg_cmp x 0) ↔ 0 ≤ x.toInt := by
  unfold lg_cmp
  have z : (0 : Int64).toInt = 0 := by decide
  simp only [gt_iff_lt, Int64.lt_iff_toInt_lt, ← Int64.toInt_inj, z]
  repeat' split
  all_goals (constructor <;> intro h <;> first | omega | exact absurd h (by decide) | decide)
theorem lgc_lt (x : Int64) : (lg_cmp x 0 < 0) ↔ x.toInt < 0 := by
  unfold lg_cmp
  have z : (0 : Int64).toInt = 0 := by decide
  simp only [gt_iff_lt, Int64.lt_iff_toInt_lt, ← Int64.toInt_inj, z]
  repeat' split
  all_goals (constructor <;> intro h <;> first | omega | exact absurd h (by decide) | decide)
theorem sub_1e5 {c : Int64} (h1 : -100000 < c.toInt) (h2 : c.toInt < 100000) : (100000 - c).toInt = 100000 - c.toInt := by
  rw [Int64.toInt_sub]
  have : (100000 : Int64).toInt = 100000 := by decide
  rw [this, Int.bmod_eq_of_le] <;> omega
theorem cmp_q {N : Nat} {u : MS} (a b : Int64) (Q : Int32 → Prop) (h : ∀ r : Int, -1 ≤ r → r ≤ 1 → (r = 0 → a = b) → Q (I r)) : OK (fun w r => w = u ∧ Q r) (fm_M_compare N u a b) := by
  obtain ⟨r, r1, r2, e, r3⟩ := cmp_e (N := N) (u := u) (a := a) (b := b)
  rw [e]
  exact ok_some.mpr ⟨rfl, h r r1 r2 r3⟩
theorem I_0 (r : Int) (h1 : -1 ≤ r) (h2 : r ≤ 1) (e : I r = 0) : r = 0 := (I_eq (y := 0) (by omega) (by omega) (by omega) (by omega)).mp e
theorem cmp_z {N : Nat} {u : MS} {cx cy : Int64} (a b : Int64) (h : a = b → cx = cy) : OK (fun w r => w = u ∧ (r = 0 → cx = cy)) (bnd (fm_M_compare N u a b) (fun u1 r1 => some (u1, r1))) :=
  ok_bnd.mpr (ok_mono (cmp_q a b (fun r => r = 0 → cx = cy) (fun r r1 r2 r3 z => h (r3 (I_0 r r1 r2 z)))) (fun _ _ q => ok_some.mpr q))
theorem one128 {N : Nat} {u : MS} {cx cy : Int64} (x1 : -100000 < cx.toInt) (x2 : cx.toInt < 100000) (y1 : -100000 < cy.toInt) (y2 : cy.toInt < 100000) : OK (fun w r => w = u ∧ (r = 0 → cx = cy)) (fb_M_orderOne_128 N () u cx cy) := by
  unfold fb_M_orderOne_128 fb_M_orderOne_146 fb_M_orderOne_164 fb_M_orderOne_177
  have e1 := sub_1e5 x1 x2
  have e2 := sub_1e5 y1 y2
  generalize (100000 - cx) = dx at *
  generalize (100000 - cy) = dy at *
  refine ok_br.mpr ⟨fun h1 => ok_br.mpr ⟨fun h2 => cmp_z _ _ (fun z => z), fun h2 => cmp_z _ _ (fun z => ?_)⟩, fun h1 => ok_br.mpr ⟨fun h2 => cmp_z _ _ (fun z => ?_), fun h2 => cmp_z _ _ (fun z => ?_)⟩⟩
  · have := congrArg Int64.toInt z
    have q2 : ¬ 0 ≤ cy.toInt := fun q => of_decide_eq_false h2 ((lgc_ge cy).mpr q)
    omega
  · have := congrArg Int64.toInt z
    have q2 : ¬ 0 ≤ cx.toInt := fun q => of_decide_eq_false h1 ((lgc_ge cx).mpr q)
    omega
  · have := congrArg Int64.toInt z
    exact Int64.toInt_inj.mp (by omega)
section
variable {n p N f : Nat} {ow kd : Nat → Nat} {Fv : Int64 → Int64 → Prop} {P : Int64 → Prop} {u : MS}
theorem oa_loop {a b na nb : Nat} (hat : ATM u) (ha : (a : Int) < F u 14) (hb : (b : Int) < F u 14) (h1 : A u 13 a + na ≤ 5000) (h2 : A u 13 b + nb ≤ 5000) : ∀ (m k : Nat), k ≤ na → na - k < m → OK (fun w _ => w = u) (gg_M_orderAtoms N m u (I a) (I b) (I na) (I nb) (I k)) := by
  obtain ⟨t1, t2, t3⟩ := hat
  have q1 := t3 a ha
  have q2 := t3 b hb
  intro m
  induction m with
  | zero => intro k _ z; exact absurd z (Nat.not_lt_zero _)
  | succ m ih =>
    intro k hk hm
    show OK _ (fb_M_orderAtoms_36 N (gg_M_orderAtoms N m) u (I a) (I b) (I na) (I nb) (I k))
    have fin : OK (fun w _ => w = u) (fb_M_orderAtoms_102 N (gg_M_orderAtoms N m) u (I na) (I nb)) := by
      unfold fb_M_orderAtoms_102
      obtain ⟨r, -, -, e, -⟩ := cmp_e (N := N) (u := u) (a := (I na).toInt64) (b := (I nb).toInt64)
      rw [e, bnd_so]
      exact ok_some.mpr rfl
    unfold fb_M_orderAtoms_36
    rw [decI (by omega) (by omega) (by omega) (by omega), decI (by omega) (by omega) (by omega) (by omega)]
    by_cases e1 : na ≤ k
    · rw [decide_eq_true (by omega), br_tq]; exact fin
    rw [decide_eq_false (by omega), br_fq]
    by_cases e2 : nb ≤ k
    · rw [decide_eq_true (by omega), br_tq]; exact fin
    rw [decide_eq_false (by omega), br_fq, inb_at (k := 13) (n := 2200) rfl (by omega) (by omega) (by decide), ck_t, I_tn (by omega) (by omega), Int.toNat_natCast, I_A (i := a), I_add, inb_at (k := 12) (n := 5000) rfl (by omega) (by omega) (by decide), ck_t, inb_at (k := 13) (n := 2200) rfl (by omega) (by omega) (by decide), ck_t, I_tn (x := (b : Int)) (by omega) (by omega), Int.toNat_natCast, I_A (i := b), I_add, inb_at (k := 12) (n := 5000) rfl (by omega) (by omega) (by decide), ck_t, lt_e]
    refine ok_br.mpr ⟨fun _ => ?_, fun _ => ok_br.mpr ⟨fun _ => ok_some.mpr rfl, fun _ => ok_some.mpr rfl⟩⟩
    rw [lit1q, I_add]
    exact ih (k + 1) (by omega) (by omega)
theorem orderAtoms_ok {a b : Nat} (hat : ATM u) (ha : (a : Int) < F u 14) (hb : (b : Int) < F u 14) (hN : 5100 ≤ N) : OK (fun w _ => w = u) (fm_M_orderAtoms N u (I a) (I b)) := by
  have hat' := hat
  obtain ⟨t1, t2, t3⟩ := hat
  obtain ⟨a1, a2, a3⟩ := t3 a ha
  obtain ⟨b1, b2, b3⟩ := t3 b hb
  unfold fm_M_orderAtoms fb_M_orderAtoms_0
  rw [lit1q, I_add, I_add, inb_at (k := 13) (n := 2200) rfl (by omega) (by omega) (by decide), ck_t, inb_at (k := 13) (n := 2200) rfl (by omega) (by omega) (by decide), ck_t, lt_e, inb_at (k := 13) (n := 2200) rfl (by omega) (by omega) (by decide), ck_t, inb_at (k := 13) (n := 2200) rfl (by omega) (by omega) (by decide), ck_t, lt_e, I_tn (by omega) (by omega), I_tn (by omega) (by omega), I_tn (by omega) (by omega), I_tn (by omega) (by omega), Int.toNat_natCast, Int.toNat_natCast, show ((a : Int) + 1).toNat = a + 1 from by omega, show ((b : Int) + 1).toNat = b + 1 from by omega, I_A (i := a + 1), I_A (i := a), I_A (i := b + 1), I_A (i := b), I_sub, I_sub, lit0q]
  have := oa_loop (N := N) (na := (A u 13 (a + 1) - A u 13 a).toNat) (nb := (A u 13 (b + 1) - A u 13 b).toNat) hat' ha hb (by omega) (by omega) N 0 (by omega) (by omega)
  rw [show (((A u 13 (a + 1) - A u 13 a).toNat : Nat) : Int) = A u 13 (a + 1) - A u 13 a from by omega, show (((A u 13 (b + 1) - A u 13 b).toNat : Nat) : Int) = A u 13 (b + 1) - A u 13 b from by omega] at this
  exact this
theorem gt_pa (hP : ∀ t, P t → PA u t) {t : Int64} (g : GT n ow kd P t) (e : so t = 1) : 0 ≤ va t ∧ va t < F u 14 := by
  rcases g with ⟨-, z⟩ | ⟨z, -⟩
  · exact hP t z e
  · unfold isH at z; omega
theorem orderOne_ok {x y : Int64} (g : HP (hp u p) n ow kd Fv P) (hn : n ≤ 500) (hp1 : p < 24) (hme : F u 133 = p) (hF : FVH Fv) (hat : ATM u) (hP : ∀ t, P t → PA u t) (gx : GT n ow kd P x) (gy : GT n ow kd P y) (hN : 5100 ≤ N) : OK (fun w r => w = u ∧ (r = 0 → isH x → so y = so x ∧ blk (hp u p) y = blk (hp u p) x)) (fm_M_orderOne N u x y) := by
  have rx := so_r x
  have ry := so_r y
  have lc : ∀ (a b : Int64) (Q : Int32 → Prop), (∀ r : Int, -1 ≤ r → r ≤ 1 → (r = 0 → a = b) → Q (I r)) → OK (fun w r => w = u ∧ Q r) (fm_M_compare N u a b) := fun a b Q h => by
    obtain ⟨r, r1, r2, e, r3⟩ := cmp_e (N := N) (u := u) (a := a) (b := b)
    rw [e]
    exact ok_some.mpr ⟨rfl, h r r1 r2 r3⟩
  have I0 : ∀ r : Int, -1 ≤ r → r ≤ 1 → I r = 0 → r = 0 := fun r h1 h2 e => (I_eq (y := 0) (by omega) (by omega) (by omega) (by omega)).mp e
  unfold fm_M_orderOne fb_M_orderOne_0
  rw [sortOf_e, bnd_so, sortOf_e, bnd_so, decE rx.1 rx.2 ry.1 ry.2]
  by_cases es : so x = so y
  · rw [decide_eq_true es, br_tq, valueOf_e, bnd_so, valueOf_e, bnd_so, lit1q, show (5 : Int32) = I 5 from rfl, show (3 : Int32) = I 3 from rfl, show (7 : Int32) = I 7 from rfl, show (6 : Int32) = I 6 from rfl, decE rx.1 rx.2 (by omega) (by omega), decE rx.1 rx.2 (by omega) (by omega), decE rx.1 rx.2 (by omega) (by omega), decE rx.1 rx.2 (by omega) (by omega), decE rx.1 rx.2 (by omega) (by omega)]
    by_cases e1 : so x = 1
    · rw [decide_eq_true e1, br_tq]
      have nx : ¬ isH x := by unfold isH; omega
      obtain ⟨a1, a2⟩ := gt_pa hP gx e1
      obtain ⟨b1, b2⟩ := gt_pa hP gy (es ▸ e1)
      have ea : va x = ((va x).toNat : Int) := by omega
      have eb : va y = ((va y).toNat : Int) := by omega
      rw [ea, eb]
      exact ok_bnd.mpr (ok_mono (orderAtoms_ok hat (by omega) (by omega) hN) (fun w r h => ok_some.mpr ⟨h, fun _ z => absurd z nx⟩))
    rw [decide_eq_false e1, br_fq]
    by_cases e5 : so x = 5
    · rw [decide_eq_true e5, br_tq]
      have hx : isH x := Or.inr (Or.inl e5)
      have hy : isH y := Or.inr (Or.inl (es ▸ e5))
      obtain ⟨bx, -⟩ := HP_bk g hx gx
      obtain ⟨by', -⟩ := HP_bk g hy gy
      have px := blk_pos (h := hp u p) hx
      have py := blk_pos (h := hp u p) hy
      have n1 := bx.2.2.2.1
      have n2 := by'.2.2.2.1
      have vx : va x = (vn x : Int) := by have := bx.1; unfold vn; omega
      have vy : va y = (vn y : Int) := by have := by'.1; unfold vn; omega
      rw [I_F' hme, vx, vy, cell_e (by omega) (by omega), bnd_so, I_F' hme, cell_e (by omega) (by omega), bnd_so]
      refine ok_bnd.mpr (ok_mono (lc _ _ (fun r => r = 0 → hp u p (vn x) = hp u p (vn y)) (fun r r1 r2 r3 z => r3 (I0 r r1 r2 z))) (fun w r h => ok_some.mpr ⟨h.1, fun z _ => ⟨es.symm, ?_⟩⟩))
      unfold blk
      rw [← es, e5, h.2 z]
      simp
    rw [decide_eq_false e5, br_fq]
    by_cases e3 : so x = 3
    · rw [decide_eq_true e3, br_tq]
      have hx : isH x := Or.inl e3
      have hy : isH y := Or.inl (es ▸ e3)
      obtain ⟨bx, -⟩ := HP_bk g hx gx
      obtain ⟨by', -⟩ := HP_bk g hy gy
      have px := blk_2 (h := hp u p) e3
      have py := blk_2 (h := hp u p) (es ▸ e3 : so y = 3)
      have n1 := bx.2.2.2.1
      have n2 := by'.2.2.2.1
      have vx : va x = (vn x : Int) := by have := bx.1; unfold vn; omega
      have vy : va y = (vn y : Int) := by have := by'.1; unfold vn; omega
      rw [I_F' hme, vx, vy, cell_e (by omega) (by omega), bnd_so, I_F' hme, cell_e (by omega) (by omega), bnd_so]
      have fx := (bx.2.2.1 e3).2
      have fy := (by'.2.2.1 (es ▸ e3)).2
      generalize hp u p (vn x) = cx at fx ⊢
      generalize hcy : hp u p (vn y) = cy at fy ⊢
      obtain ⟨x1, x2⟩ := hF.1 _ _ fx
      obtain ⟨y1, y2⟩ := hF.1 _ _ fy
      have fin : cx = cy → so y = so x ∧ blk (hp u p) y = blk (hp u p) x := fun z => by
        subst z
        have := hF.2 _ _ _ fx fy
        refine ⟨es.symm, ?_⟩
        unfold blk
        rw [← es, e3]
        simp
        unfold vn at this ⊢
        unfold vn at *
        rw [this]
      have fun128 := one128 (N := N) (u := u) x1 x2 y1 y2
      refine ok_br.mpr ⟨fun h1 => ?_, fun h1 => ok_br.mpr ⟨fun h2 => ?_, fun h2 => ?_⟩⟩
      · exact ok_mono fun128 (fun w r h => ⟨h.1, fun z _ => fin (h.2 z)⟩)
      · unfold fb_M_orderOne_177
        exact ok_bnd.mpr (ok_mono (lc cx cy (fun r => r = 0 → cx = cy) (fun r r1 r2 r3 z => r3 (I0 r r1 r2 z))) (fun w r q => ok_some.mpr ⟨q.1, fun z _ => fin (q.2 z)⟩))
      · exact ok_mono fun128 (fun w r h => ⟨h.1, fun z _ => fin (h.2 z)⟩)
    rw [decide_eq_false e3, br_fq]
    by_cases e7 : so x = 7
    · rw [decide_eq_true e7, br_tq]
      unfold fb_M_orderOne_192 fb_M_orderOne_205
      refine ok_some.mpr ⟨rfl, fun _ _ => ⟨es.symm, ?_⟩⟩
      unfold blk
      rw [← es, e7]
      simp
    rw [decide_eq_false e7, br_fq]
    have nx : ¬ isH x := by unfold isH; omega
    refine ok_br.mpr ⟨fun _ => ok_some.mpr ⟨rfl, fun _ z => absurd z nx⟩, fun _ => ?_⟩
    unfold fb_M_orderOne_205
    exact ok_bnd.mpr (ok_mono (lc _ _ (fun _ => True) (fun _ _ _ _ => trivial)) (fun w r q => ok_some.mpr ⟨q.1, fun _ z => absurd z nx⟩))
  · rw [decide_eq_false es, br_fq, sortOf_e, bnd_so]
    refine ok_bnd.mpr (ok_mono (lc _ _ (fun r => r ≠ 0) (fun r r1 r2 r3 z => es ?_)) (fun w r q => ok_some.mpr ⟨q.1, fun z _ => absurd z q.2⟩))
    have := r3 (I0 r r1 r2 z)
    have := congrArg Int64.toInt this
    rw [Int32.toInt_toInt64, Int32.toInt_toInt64, I_ti rx.1 rx.2, I_ti ry.1 ry.2] at this
    exact this
end
end
section
section
variable {h : Nat → Int64} {n p N f : Nat} {ow kd : Nat → Nat} {Fv : Int64 → Int64 → Prop} {P : Int64 → Prop} {u0 : MS}
theorem smm_lin {d : Nat → Nat} {a q : Nat} (k l : Nat) : smm (fun i => k + l * d i) a q = k * q + l * smm d a q := by
  induction q with
  | zero => show 0 = k * 0 + l * 0; omega
  | succ q iq =>
    show smm (fun i => k + l * d i) a q + (k + l * d (a + q)) = k * (q + 1) + l * (smm d a q + d (a + q))
    rw [iq, Nat.mul_add, Nat.mul_add]; omega
theorem ord_loop (hn : n ≤ 500) (hp1 : p < 24) (hF : FVH Fv) (hat : ATM u0) (hP : ∀ t, P t → PA u0 t) (hme : F u0 133 = p) (h0 : hp u0 p = h) (g : HP h n ow kd Fv P) (hN : 5100 ≤ N) : ∀ (m : Nat),
    (∀ (u : MS) (c : Nat → Nat) (q : Nat), FR [] [] [] [141] u0 u → (∀ i, i < q → GT n ow kd P (u.2.2.2 141 (2 * i)) ∧ SZ h n ow kd Fv P f (u.2.2.2 141 (2 * i + 1)) (c i)) → q + smm c 0 q ≤ 1001 → 2 * q + 3 * smm c 0 q < m → OK (fun w _ => FR [] [] [] [141] u0 w) ((gg_M_order N m).1 u (I ((2 * q : Nat) : Int)))) ∧
    (∀ (u : MS) (c d : Nat → Nat) (q r : Nat) (x y : Int64), FR [] [] [] [141] u0 u → (∀ i, i < q → GT n ow kd P (u.2.2.2 141 (2 * i)) ∧ SZ h n ow kd Fv P f (u.2.2.2 141 (2 * i + 1)) (c i)) → isH x → GT n ow kd P x → GT n ow kd P y → so y = so x → blk h y = blk h x → prt x + r ≤ blk h x → (∀ i, prt x ≤ i → i < prt x + r → SZ h n ow kd Fv P f (h (vn x + i)) (d i)) → q + smm c 0 q + (r + smm d (prt x) r) ≤ 1001 → 2 * q + 3 * smm c 0 q + (3 * r + 3 * smm d (prt x) r) + 1 < m → OK (fun w _ => FR [] [] [] [141] u0 w) ((gg_M_order N m).2 u (I ((2 * q : Nat) : Int)) x y (I ((prt x : Int) + r - 1)))) := by
  intro m
  induction m with
  | zero => exact ⟨fun u c q _ _ _ z => absurd z (Nat.not_lt_zero _), fun u c d q r x y _ _ _ _ _ _ _ _ _ _ z => absurd z (Nat.not_lt_zero _)⟩
  | succ m ih =>
    obtain ⟨ih1, ih2⟩ := ih
    refine ⟨fun u c q hu hc hb hm => ?_, fun u c d q r x y hu hc hx gx gy es eb hr hd hb hm => ?_⟩
    · show OK _ (fb_M_order_17 N (gg_M_order N m) u (I ((2 * q : Nat) : Int)))
      unfold fb_M_order_17 fb_M_order_158
      rw [lit0q, decI (by omega) (by omega) (by omega) (by omega)]
      cases q with
      | zero =>
        rw [decide_eq_true (by omega), br_tq]
        exact ok_some.mpr hu
      | succ q =>
        have hlast : smm c 0 (q + 1) = smm c 0 q + c q := by show smm c 0 q + c (0 + q) = _; rw [Nat.zero_add]
        obtain ⟨gy, zx⟩ := hc q (by omega)
        rw [decide_eq_false (by omega), br_fq, lit1q, I_sub, show (2 : Int32) = I 2 from rfl, I_sub, inb_at (k := 141) (n := 3000) rfl (by omega) (by omega) (by decide), ck_t, lt_e, inb_at (k := 141) (n := 3000) rfl (by omega) (by omega) (by decide), ck_t, lt_e, I_tn (by omega) (by omega), I_tn (by omega) (by omega), show (((2 * (q + 1) : Nat) : Int) - 1).toNat = 2 * q + 1 from by omega, show (((2 * (q + 1) : Nat) : Int) - 2).toNat = 2 * q from by omega]
        generalize u.2.2.2 141 (2 * q + 1) = x at *
        generalize u.2.2.2 141 (2 * q) = y at *
        have eh : hp u p = h := by rw [← h0]; unfold hp; rw [hu.2.2.2 88 (by decide)]
        have hat2 : ATM u := by
          obtain ⟨t1, t2, t3⟩ := hat
          unfold ATM
          rw [FR.F hu (by decide)]
          exact ⟨t1, t2, fun k hk => by rw [FR.A hu (by decide), FR.A hu (by decide)]; exact t3 k hk⟩
        have hP2 : ∀ t, P t → PA u t := fun t z => by unfold PA; rw [FR.F hu (by decide)]; exact hP t z
        refine ok_bnd.mpr (ok_mono (orderOne_ok (p := p) (n := n) (ow := ow) (kd := kd) (P := P) (Fv := Fv) (by rw [eh]; exact g) hn hp1 (by rw [FR.F hu (by decide)]; exact hme) hF hat2 hP2 (SZ_gt zx) gy hN) (fun w r hw => ?_))
        obtain ⟨e1, e2⟩ := hw
        subst e1
        rw [eh] at e2
        refine ok_br.mpr ⟨fun h1 => ?_, fun _ => ok_some.mpr hu⟩
        have r0 : r = 0 := of_decide_eq_true h1
        by_cases hh : isH x
        · rw [inHeap_e.1 hh, bnd_so, decE (by omega) (by omega) (by omega) (by omega), decide_eq_false (by omega), br_fq]
          obtain ⟨es, eb⟩ := e2 r0 hh
          obtain ⟨bx, -⟩ := HP_bk g hh (SZ_gt zx)
          have pl := prt_le (h := h) hh
          have bp := blk_pos (h := h) hh
          have bn := bx.2.2.2.1
          rw [I_F' (show F w 133 = p by rw [FR.F hu (by decide)]; exact hme), sizeOf_e (n := n) (ow := ow) (kd := kd) (Fv := Fv) (by omega) hn hh (by rw [eh]; exact bx), bnd_so, eh, I_neg, I_add, I_sub]
          cases f with
          | zero => exact zx.elim
          | succ f =>
            have zx' := zx
            rcases zx with ⟨z1, -⟩ | ⟨-, b, d, z3, z4⟩
            · exact absurd hh z1
            have := ih2 w c d q (blk h x - prt x) x y hu (fun i hi => hc i (by omega)) hh (SZ_gt zx') gy es eb (by omega) (fun i a b2 => SZ_mono (z3 i a (by omega))) (by omega) (by omega)
            rw [show ((prt x : Int) + ((blk h x - prt x : Nat) : Int) - 1) = (blk h x : Int) - 1 from by omega] at this
            rw [show ((2 * (q + 1) : Nat) : Int) + -2 = ((2 * q : Nat) : Int) from by omega]
            exact this
        · rw [inHeap_e.2 hh, bnd_so, decE (by omega) (by omega) (by omega) (by omega), decide_eq_true rfl, br_tq, I_neg, I_add, show ((2 * (q + 1) : Nat) : Int) + -2 = ((2 * q : Nat) : Int) from by omega]
          exact ih1 w c q hu (fun i hi => hc i (by omega)) (by omega) (by omega)
    · show OK _ (fb_M_order_91 N (gg_M_order N m) u (I ((2 * q : Nat) : Int)) x y (I ((prt x : Int) + r - 1)))
      unfold fb_M_order_91 fb_M_order_158
      have hy : isH y := by unfold isH; rw [es]; exact hx
      obtain ⟨bx, px⟩ := HP_bk g hx gx
      obtain ⟨by', py⟩ := HP_bk g hy gy
      have bn := bx.2.2.2.1
      have bn2 := by'.2.2.2.1
      have eh : hp u p = h := by rw [← h0]; unfold hp; rw [hu.2.2.2 88 (by decide)]
      rw [partsFrom_e hx, bnd_so, decL (by omega) (by omega) (by omega) (by omega)]
      cases r with
      | zero =>
        rw [decide_eq_true (by omega), br_tq]
        exact ih1 u c q hu hc (by omega) (by omega)
      | succ r =>
        have hsd : smm d (prt x) (r + 1) = smm d (prt x) r + d (prt x + r) := rfl
        have vx : va x = (vn x : Int) := by have := bx.1; unfold vn; omega
        have vy : va y = (vn y : Int) := by have := by'.1; unfold vn; omega
        have hme2 : F u 133 = p := by rw [FR.F hu (by decide)]; exact hme
        rw [decide_eq_false (by omega), br_fq, valueOf_e, bnd_so, I_F' hme2, vy, I_add, show (vn y : Int) + ((prt x : Int) + ((r + 1 : Nat) : Int) - 1) = ((vn y + (prt x + r) : Nat) : Int) from by omega, cell_e (by omega) (by omega), bnd_so, inb_at (k := 141) (n := 3000) rfl (by omega) (by omega) (by decide), ck_t, lt_e, I_tn (by omega) (by omega), Int.toNat_natCast, wj_e, valueOf_e, bnd_so, show (wj u 141 (2 * q) (hp u p (vn y + (prt x + r)))).1 133 = I p from I_F' hme2, vx, I_add, show (vn x : Int) + ((prt x : Int) + ((r + 1 : Nat) : Int) - 1) = ((vn x + (prt x + r) : Nat) : Int) from by omega, cell_e (by omega) (by omega), bnd_so, lit1q, I_add, inb_at (k := 141) (n := 3000) rfl (by omega) (by omega) (by decide), ck_t, lt_e, I_tn (by omega) (by omega), show (((2 * q : Nat) : Int) + 1).toNat = 2 * q + 1 from by omega, wj_e, show (2 : Int32) = I 2 from rfl, I_add, I_neg, I_add]
        have ew : hp (wj u 141 (2 * q) (hp u p (vn y + (prt x + r)))) p = h := eh
        rw [ew, eh]
        have sz := hd (prt x + r) (by omega) (by omega)
        have gyp := py (prt x + r) (by rw [prt_so es]; omega) (by rw [eb]; omega)
        have := ih2 (wj (wj u 141 (2 * q) (h (vn y + (prt x + r)))) 141 (2 * q + 1) (h (vn x + (prt x + r)))) (fun i => if i = q then d (prt x + r) else c i) d (q + 1) r x y (FR.wj (FR.wj hu (by decide)) (by decide)) (fun i hi => by
          rw [J_wj, if_pos rfl, if_neg (by omega), J_wj, if_pos rfl, J_wj, if_pos rfl]
          by_cases e : i = q
          · subst e
            rw [if_pos rfl, if_pos rfl]
            simp only [if_true]
            exact ⟨gyp, sz⟩
          · rw [if_neg (by omega), if_neg (by omega), J_wj, if_pos rfl, if_neg (by omega)]
            simp only [if_neg e]
            exact hc i (by omega)) hx gx gy es eb (by omega) (fun i a b2 => hd i a (by omega)) (by rw [smm_upd]; omega) (by rw [smm_upd]; omega)
        rw [show ((2 * q : Nat) : Int) + 2 = ((2 * (q + 1) : Nat) : Int) from by omega, show (prt x : Int) + ((r + 1 : Nat) : Int) - 1 + -1 = (prt x : Int) + (r : Int) - 1 from by omega]
        exact this
theorem order_ok {a b : Int64} (hn : n ≤ 500) (hp1 : p < 24) (hF : FVH Fv) (hat : ATM u0) (hP : ∀ t, P t → PA u0 t) (hme : F u0 133 = p) (g : HP (hp u0 p) n ow kd Fv P) (ga : GT n ow kd P a) (gb : GT n ow kd P b) (hN : 5100 ≤ N) : OK (fun w _ => FR [] [] [] [141] u0 w) (fm_M_order N u0 a b) := by
  obtain ⟨f, s, z⟩ := HP_sz g ga
  have hs := SZ_1000 g hn z
  unfold fm_M_order fb_M_order_0
  rw [lit0q, lit1q, inb_at (k := 141) (n := 3000) rfl (by omega) (by omega) (by decide), ck_t, lt_e, I_tn (by omega) (by omega), wj_e, inb_at (k := 141) (n := 3000) rfl (by omega) (by omega) (by decide), ck_t, lt_e, I_tn (by omega) (by omega), wj_e]
  exact (ord_loop (f := f) (h := hp u0 p) hn hp1 hF hat hP hme rfl g hN N).1 (wj (wj u0 141 0 b) 141 1 a) (fun _ => s) 1 (FR.wj (FR.wj FR.rf (by decide)) (by decide)) (fun i hi => by
    have e : i = 0 := by omega
    subst e
    rw [J_wj, if_pos rfl, if_neg (by decide), J_wj, if_pos rfl, if_pos rfl, J_wj, if_pos rfl, if_pos rfl]
    exact ⟨gb, z⟩) (by show 1 + (0 + s) ≤ 1001; omega) (by show 2 * 1 + 3 * (0 + s) < N; omega)
end
end
section
def TXT (u w : MS) (k : Int) : Prop := FR [144] [] [143] [] u w ∧ F u 144 ≤ F w 144 ∧ F w 144 ≤ F u 144 + k
theorem TXT.tr {u v w : MS} {a b c : Int} (x : TXT u v a) (y : TXT v w b) (h : a + b ≤ c) : TXT u w c := ⟨FR.tr x.1 y.1, by have := x.2.1; have := y.2.1; omega, by have := x.2.2; have := y.2.2; omega⟩
theorem lit100 : (100 : Int32) = I 100 := rfl
theorem sign_ok {N : Nat} {u : MS} {c : Int32} (h1 : 0 ≤ F u 144) (h2 : F u 144 ≤ 1000000) : OK (fun w _ => TXT u w 1 ∧ F w 144 = F u 144 + 1) (fm_M_sign N u c) := by
  unfold fm_M_sign fb_M_sign_0 fb_M_sign_20
  rw [I_F (w := u), lit100, decI (by omega) (by omega) (by omega) (by omega)]
  by_cases e : 100 ≤ F u 144
  · rw [decide_eq_true e, br_tq, lt_e, lit1q, I_add, wi_e]
    have ef : F (wi u 144 (F u 144 + 1)) 144 = F u 144 + 1 := by rw [F_wi (by omega) (by omega), if_pos rfl]
    exact ok_some.mpr ⟨⟨FR.wi FR.rf (by decide), by omega, by omega⟩, ef⟩
  · rw [decide_eq_false e, br_fq, inb_at (k := 143) (n := 100) rfl h1 (by omega) (by decide), ck_t, lt_e, I_tn (by omega) (by omega)]
    generalize hv : vp_nar .byte (c.toInt8.toInt32) = v
    rw [I_of v, wa_e, lt_e, show (wa u 143 (F u 144).toNat v.toInt).1 144 = I (F u 144) from I_F, lit1q, I_add, wi_e]
    have ef : F (wi (wa u 143 (F u 144).toNat v.toInt) 144 (F u 144 + 1)) 144 = F u 144 + 1 := by rw [F_wi (by omega) (by omega), if_pos rfl]
    exact ok_some.mpr ⟨⟨FR.wi (FR.wa FR.rf (by decide)) (by decide), by omega, by omega⟩, ef⟩
def pw (k : Nat) : Int64 := Int64.ofNat (10 ^ k)
theorem pw_f : ∀ k, k < 11 → pw k * 10 = pw (k + 1) ∧ (k ≠ 0 → pw k / 10 = pw (k - 1)) ∧ ¬ pw k = 0 ∧ decide (lg_cmp (pw k) 0 ≤ 0) = false := by decide +kernel
theorem pw_0 : pw 0 / 10 = 0 ∧ decide (lg_cmp 0 0 ≤ 0) = true := by decide +kernel
theorem pw_10 {x : Int64} (h : x.toInt ≤ 2147483648) : 0 < lg_cmp (pw 10) x := by
  unfold lg_cmp
  have : (pw 10).toInt = 10000000000 := by decide +kernel
  rw [if_pos (by show x < pw 10; rw [Int64.lt_iff_toInt_lt]; omega)]
  decide
theorem dg2 {N : Nat} {x : Int64} : ∀ (m k : Nat) (u : MS), k < 11 → k + 1 < m → 0 ≤ F u 144 → F u 144 + k ≤ 100000 → OK (fun w _ => TXT u w (k + 1)) ((gg_M_digits N m).2 u x (pw k)) := by
  intro m
  induction m with
  | zero => intro k u _ z; omega
  | succ m ih =>
    intro k u hk hm h1 h2
    obtain ⟨-, p2, p3, p4⟩ := pw_f k hk
    show OK _ (fb_M_digits_48 N (gg_M_digits N m) u x (pw k))
    unfold fb_M_digits_48
    rw [p4, br_fq, decide_eq_true p3, ck_t, show (decide (¬ (10 : Nat) = 0)) = true from rfl, ck_t]
    refine ok_bnd.mpr (ok_mono (sign_ok h1 (by omega)) (fun w _ hw => ?_))
    rw [ck_t]
    have := hw.2
    cases k with
    | zero =>
      rw [pw_0.1]
      cases m with
      | zero => omega
      | succ m =>
        show OK _ (fb_M_digits_48 N (gg_M_digits N m) w x 0)
        unfold fb_M_digits_48
        rw [pw_0.2, br_tq]
        exact ok_some.mpr hw.1
    | succ k =>
      rw [p2 (by omega)]
      exact ok_mono (ih k w (by omega) (by omega) (by omega) (by omega)) (fun w2 _ q => TXT.tr (c := ((k + 1 : Nat) : Int) + 1) hw.1 q (by omega))
theorem dg1 {N : Nat} {x : Int64} {v : Int32} (hx : x.toInt ≤ 2147483648) : ∀ (m k : Nat) (u : MS), k < 10 → (10 - k) + 20 < m → 0 ≤ F u 144 → F u 144 ≤ 90000 → OK (fun w _ => TXT u w 12) ((gg_M_digits N m).1 u v x (pw k)) := by
  intro m
  induction m with
  | zero => intro k u _ z; omega
  | succ m ih =>
    intro k u hk hm h1 h2
    obtain ⟨p1, -⟩ := pw_f k (by omega)
    show OK _ (fb_M_digits_16 N (gg_M_digits N m) u v x (pw k))
    unfold fb_M_digits_16
    rw [p1]
    have down : OK (fun w _ => TXT u w 12) (br (decide (0 ≤ v)) ((gg_M_digits N m).2 u x (pw k)) (bnd (fm_M_sign N u 45) (fun u2 _ => (gg_M_digits N m).2 u2 x (pw k)))) := by
      refine ok_br.mpr ⟨fun _ => ok_mono (dg2 m k u (by omega) (by omega) h1 (by omega)) (fun w _ q => ⟨q.1, q.2.1, by have := q.2.2; omega⟩), fun _ => ok_bnd.mpr (ok_mono (sign_ok h1 (by omega)) (fun w _ hw => ?_))⟩
      have := hw.2
      exact ok_mono (dg2 m k w (by omega) (by omega) (by omega) (by omega)) (fun w2 _ q => TXT.tr (c := 12) hw.1 q (by omega))
    refine ok_br.mpr ⟨fun _ => down, fun h0 => ?_⟩
    by_cases e : k = 9
    · subst e
      exact absurd (pw_10 hx) (of_decide_eq_false h0)
    · exact ih (k + 1) u (by omega) (by omega) h1 h2
theorem digits_ok {N : Nat} {u : MS} {v : Int32} (h1 : 0 ≤ F u 144) (h2 : F u 144 ≤ 90000) (hN : 100 ≤ N) : OK (fun w _ => TXT u w 12) (fm_M_digits N u v) := by
  have hv := ti_rng v
  unfold fm_M_digits fb_M_digits_0 fb_M_digits_12
  rw [show (1 : Int64) = pw 0 from rfl]
  refine ok_br.mpr ⟨fun _ => dg1 ?_ N 0 u (by omega) (by omega) h1 h2, fun _ => dg1 ?_ N 0 u (by omega) (by omega) h1 h2⟩
  · rw [Int32.toInt_toInt64]; omega
  · rw [Int64.toInt_neg, Int32.toInt_toInt64, Int.bmod_eq_of_le] <;> omega
end
section
section
variable {h : Nat → Int64} {n p N f : Nat} {ow kd : Nat → Nat} {Fv : Int64 → Int64 → Prop} {P : Int64 → Prop} {u0 : MS} {B : Int}
def ENT (h : Nat → Int64) (n : Nat) (ow kd : Nat → Nat) (Fv : Int64 → Int64 → Prop) (P : Int64 → Prop) (f : Nat) (t : Int64) (k : Nat) : Prop :=
  (so t = 20 ∧ k = 1) ∨ (so t = 21 ∧ 0 ≤ va t ∧ vn t + 2 ≤ n ∧ ∃ d, k = 3 + 2 * d ∧ SZ h n ow kd Fv P f (h (vn t + 1)) d) ∨ ∃ c, k = 1 + 2 * c ∧ SZ h n ow kd Fv P f t c
def PS (P : Int64 → Prop) : Prop := ∀ t, P t → so t = 0 ∨ so t = 1 ∨ so t = 2 ∨ so t = 4 ∨ so t = 6
theorem ENT_pos {t : Int64} {k : Nat} (e : ENT h n ow kd Fv P f t k) : 1 ≤ k := by
  rcases e with ⟨-, e⟩ | ⟨-, -, -, d, e, -⟩ | ⟨c, e, -⟩ <;> omega
def WOI (B : Int) (u0 : MS) (h : Nat → Int64) (n : Nat) (ow kd : Nat → Nat) (Fv : Int64 → Int64 → Prop) (P : Int64 → Prop) (f : Nat) (u : MS) (many : Nat) (c : Nat → Nat) : Prop :=
  FR [144] [] [143] [141] u0 u ∧ 0 ≤ F u 144 ∧ F u 144 ≤ B ∧ (∀ i, i < many → ENT h n ow kd Fv P f (u.2.2.2 141 i) (c i)) ∧ smm c 0 many ≤ 2001
theorem WOI_many {u : MS} {many : Nat} {c : Nat → Nat} (w : WOI B u0 h n ow kd Fv P f u many c) : many ≤ 2001 := Nat.le_trans (smm_ge (fun i hi => ENT_pos (w.2.2.2.1 i hi))) w.2.2.2.2
theorem WOI_txt {u w : MS} {many : Nat} {c : Nat → Nat} {k : Int} (a : WOI B u0 h n ow kd Fv P f u many c) (t : TXT u w k) (hk : F w 144 ≤ B) : WOI B u0 h n ow kd Fv P f w many c := by
  obtain ⟨a1, a2, a3, a4, a5⟩ := a
  refine ⟨FR.tr a1 (FR.mo t.1 (fun _ z => z) (fun _ z => z) (fun _ z => z) (fun _ z => by cases z)), by have := t.2.1; omega, hk, ?_, a5⟩
  rw [t.1.2.2.2 141 (by decide)]
  exact a4
theorem WOI_push {u : MS} {many : Nat} {c : Nat → Nat} {t : Int64} {k : Nat} (a : WOI B u0 h n ow kd Fv P f u many c) (e : ENT h n ow kd Fv P f t k) (hk : smm c 0 many + k ≤ 2001) : WOI B u0 h n ow kd Fv P f (wj u 141 many t) (many + 1) (fun i => if i = many then k else c i) := by
  obtain ⟨a1, a2, a3, a4, a5⟩ := a
  refine ⟨FR.wj a1 (by decide), a2, a3, fun i hi => ?_, by rw [smm_upd]; exact hk⟩
  rw [J_wj, if_pos rfl]
  by_cases e2 : i = many
  · subst e2; rw [if_pos rfl]; simp only [if_true]; exact e
  · rw [if_neg e2]; simp only [if_neg e2]; exact a4 i (by omega)
theorem WOI_pop {u : MS} {many : Nat} {c : Nat → Nat} (a : WOI B u0 h n ow kd Fv P f u (many + 1) c) : WOI B u0 h n ow kd Fv P f u many c ∧ ENT h n ow kd Fv P f (u.2.2.2 141 many) (c many) ∧ smm c 0 many + c many ≤ 2001 := by
  obtain ⟨a1, a2, a3, a4, a5⟩ := a
  have e : smm c 0 (many + 1) = smm c 0 many + c many := by show smm c 0 many + c (0 + many) = _; rw [Nat.zero_add]
  exact ⟨⟨a1, a2, a3, fun i hi => a4 i (by omega), by omega⟩, a4 many (by omega), by omega⟩
theorem rest_ok {u : MS} {many v d : Nat} {c : Nat → Nat} (hp1 : p < 25) (hn : n ≤ 500) (g : HP h n ow kd Fv P) (h0 : hp u0 p = h) (a : WOI B u0 h n ow kd Fv P f u many c) (hB : 6000 ≤ B ∧ B ≤ 90000) (hF : F u 144 ≤ 100) (hv : v + 2 ≤ n) (z : SZ h n ow kd Fv P f (h (v + 1)) d) (hk : smm c 0 many + (3 + 2 * d) ≤ 2001) :
    OK (fun w r => ∃ many2 c2, r = I ((many2 : Nat) : Int) ∧ WOI B u0 h n ow kd Fv P f w many2 c2 ∧ smm c2 0 many2 + 1 ≤ smm c 0 many + (3 + 2 * d)) (fm_M_restOfList N u (I p) (I many) (I v)) := by
  have hm := WOI_many a
  have eh : hp u p = h := by rw [← h0]; unfold hp; rw [a.1.2.2.2 88 (by decide)]
  unfold fm_M_restOfList fb_M_restOfList_0 fb_M_restOfList_124
  rw [lit1q, I_add, show (v : Int) + 1 = ((v + 1 : Nat) : Int) from by omega, cell_e hp1 (by omega), bnd_so, eh]
  generalize hy : h (v + 1) = y at *
  have ry := so_r y
  rw [sortOf_e, bnd_so, show (6 : Int32) = I 6 from rfl, show (7 : Int32) = I 7 from rfl, decE ry.1 ry.2 (by omega) (by omega)]
  by_cases e6 : so y = 6
  · rw [decide_eq_true e6, br_tq]
    refine ok_bnd.mpr (ok_mono (sign_ok a.2.1 (by omega)) (fun w _ q => ok_some.mpr ⟨many, c, rfl, WOI_txt a q.1 (by have := q.2; omega), by omega⟩))
  rw [decide_eq_false e6, br_fq, sortOf_e, bnd_so, decE ry.1 ry.2 (by omega) (by omega)]
  by_cases e7 : so y = 7
  · rw [decide_eq_true e7, br_tq]
    refine ok_bnd.mpr (ok_mono (sign_ok a.2.1 (by omega)) (fun w _ q => ?_))
    have aw := WOI_txt a q.1 (by have := q.2; omega)
    have hyh : isH y := Or.inr (Or.inr e7)
    have gy := SZ_gt z
    obtain ⟨b, pt⟩ := HP_bk g hyh gy
    have bb : blk h y = 2 := by unfold blk; rw [e7]; rfl
    have pp : prt y = 0 := by unfold prt; rw [e7]; rfl
    have bn := b.2.2.2.1
    have vy : va y = (vn y : Int) := by have := b.1; unfold vn; omega
    obtain ⟨f', hf'⟩ : ∃ f', f = f' + 1 := by cases f with | zero => exact z.elim | succ f' => exact ⟨f', rfl⟩
    subst hf'
    rcases z with ⟨z1, -⟩ | ⟨-, -, cc, z3, z4⟩
    · exact absurd hyh z1
    rw [bb, pp] at z3 z4
    have zd : d = 2 + (cc 0 + cc 1) := by rw [z4]; show 2 + (0 + cc (0 + 0) + cc (0 + 1)) = _; simp
    rw [valueOf_e, bnd_so, show (21 : Int32) = I 21 from rfl, term_e, bnd_so, inb_at (k := 141) (n := 3000) rfl (by omega) (by omega) (by decide), ck_t, lt_e, I_tn (by omega) (by omega), Int.toNat_natCast, wj_e, valueOf_e, bnd_so, vy, cell_e hp1 (by omega), bnd_so, I_add, inb_at (k := 141) (n := 3000) rfl (by omega) (by omega) (by decide), ck_t, lt_e, I_tn (by omega) (by omega), show ((many : Int) + 1).toNat = many + 1 from by omega, wj_e, show (2 : Int32) = I 2 from rfl, I_add]
    have ehw : hp (wj w 141 many (mk 21 (vn y : Int))) p = h := by rw [← h0]; unfold hp; rw [wj_ne (show 88 ≠ 141 by decide), aw.1.2.2.2 88 (by decide)]
    rw [ehw]
    have e21 : so (mk 21 (vn y : Int)) = 21 := so_mk (by omega) (by omega)
    have v21 : va (mk 21 (vn y : Int)) = (vn y : Int) := va_mk (by omega) (by omega)
    have n21 : vn (mk 21 (vn y : Int)) = vn y := by show (va _).toNat = _; rw [v21]; omega
    have en1 : ENT h n ow kd Fv P (f' + 1) (mk 21 (vn y : Int)) (3 + 2 * cc 1) := Or.inr (Or.inl ⟨e21, by omega, by rw [n21]; omega, cc 1, rfl, by rw [n21]; exact SZ_mono (z3 1 (by omega) (by omega))⟩)
    have en2 : ENT h n ow kd Fv P (f' + 1) (h (vn y)) (1 + 2 * cc 0) := Or.inr (Or.inr ⟨cc 0, rfl, SZ_mono (z3 0 (by omega) (by omega))⟩)
    have w1 := WOI_push aw en1 (by omega)
    have w2 := WOI_push w1 en2 (by rw [smm_upd]; omega)
    refine ok_some.mpr ⟨many + 2, _, by congr 1, w2, ?_⟩
    rw [smm_upd, smm_upd]; omega
  · rw [decide_eq_false e7, br_fq]
    refine ok_bnd.mpr (ok_mono (sign_ok a.2.1 (by omega)) (fun w _ q => ?_))
    have aw := WOI_txt a q.1 (by have := q.2; omega)
    rw [show (20 : Int32) = I 20 from rfl, show (93 : Int32) = I 93 from rfl, term_e, bnd_so, inb_at (k := 141) (n := 3000) rfl (by omega) (by omega) (by decide), ck_t, lt_e, I_tn (by omega) (by omega), Int.toNat_natCast, wj_e, I_add, inb_at (k := 141) (n := 3000) rfl (by omega) (by omega) (by decide), ck_t, lt_e, I_tn (by omega) (by omega), show ((many : Int) + 1).toNat = many + 1 from by omega, wj_e, show (2 : Int32) = I 2 from rfl, I_add]
    have en1 : ENT h n ow kd Fv P f (mk 20 93) 1 := Or.inl ⟨so_mk (by omega) (by omega), rfl⟩
    have en2 : ENT h n ow kd Fv P f y (1 + 2 * d) := Or.inr (Or.inr ⟨d, rfl, z⟩)
    have w1 := WOI_push aw en1 (by omega)
    have w2 := WOI_push w1 en2 (by rw [smm_upd]; omega)
    refine ok_some.mpr ⟨many + 2, _, by congr 1, w2, ?_⟩
    rw [smm_upd, smm_upd]; omega
end
section
variable {h : Nat → Int64} {n p N f : Nat} {ow kd : Nat → Nat} {Fv : Int64 → Int64 → Prop} {P : Int64 → Prop} {u0 : MS} {B : Int}
theorem wo_loop (hB : 6000 ≤ B ∧ B ≤ 90000) (hp1 : p < 25) (hn : n ≤ 500) (g : HP h n ow kd Fv P) (h0 : hp u0 p = h) (hat : ATM u0) (hP : ∀ t, P t → PA u0 t) (hS : PS P) (hN : 100 ≤ N) : ∀ (m : Nat),
    (∀ (u : MS) (many : Nat) (c : Nat → Nat), WOI B u0 h n ow kd Fv P f u many c → 5100 * smm c 0 many + 1 < m → OK (fun w _ => FR [144] [] [143] [141] u0 w ∧ 0 ≤ F w 144 ∧ F w 144 ≤ B) ((gg_M_writeOn N m).1 u (I p) (I many))) ∧
    (∀ (u : MS) (many v k : Nat) (c : Nat → Nat), WOI B u0 h n ow kd Fv P f u many c → (v : Int) < F u0 14 → (k : Int) ≤ A u0 13 (v + 1) → F u 144 ≤ 100 + k → 5100 * smm c 0 many + (5000 - k) + 2 < m → OK (fun w _ => FR [144] [] [143] [141] u0 w ∧ 0 ≤ F w 144 ∧ F w 144 ≤ B) ((gg_M_writeOn N m).2.1 u (I p) (I many) (I v) (I k))) ∧
    (∀ (u : MS) (many v k : Nat) (c d : Nat → Nat), WOI B u0 h n ow kd Fv P f u many c → v + 1 + k ≤ n → (∀ i, 1 ≤ i → i < 1 + k → SZ h n ow kd Fv P f (h (v + i)) (d i)) → smm c 0 many + (2 * k + 2 * smm d 1 k) ≤ 2001 → 5100 * (smm c 0 many + (2 * k + 2 * smm d 1 k)) + k + 2 < m → OK (fun w _ => FR [144] [] [143] [141] u0 w ∧ 0 ≤ F w 144 ∧ F w 144 ≤ B) ((gg_M_writeOn N m).2.2 u (I p) (I many) (I v) (I k))) := by
  have hat' := hat
  obtain ⟨t1, t2, t3⟩ := hat
  intro m
  induction m with
  | zero => exact ⟨fun u many c _ z => absurd z (Nat.not_lt_zero _), fun u many v k c _ _ _ _ z => absurd z (Nat.not_lt_zero _), fun u many v k c d _ _ _ _ z => absurd z (Nat.not_lt_zero _)⟩
  | succ m ih =>
    obtain ⟨ih1, ih2, ih3⟩ := ih
    refine ⟨fun u many c a hm => ?_, fun u many v k c a hv hk hF hm => ?_, fun u many v k c d a hv hd hb hm => ?_⟩
    · have hmany := WOI_many a
      show OK _ (fb_M_writeOn_10 N (gg_M_writeOn N m) u (I p) (I many))
      unfold fb_M_writeOn_10 fb_M_writeOn_387 fb_M_writeOn_384
      rw [lit0q, decI (by omega) (by omega) (by omega) (by omega)]
      have fin : OK (fun w _ => FR [144] [] [143] [141] u0 w ∧ 0 ≤ F w 144 ∧ F w 144 ≤ B) (some (u, ())) := ok_some.mpr ⟨a.1, a.2.1, a.2.2.1⟩
      cases many with
      | zero => rw [decide_eq_true (by omega), br_tq]; exact fin
      | succ many =>
        rw [decide_eq_false (by omega), br_fq]
        have ea : I (F u 144) = u.1 144 := I_F.symm
        rw [← ea, lit100, decI (by omega) (by omega) (by have := a.2.1; omega) (by have := a.2.2.1; omega)]
        by_cases e100 : 100 ≤ F u 144
        · rw [decide_eq_true e100, br_tq]; exact fin
        rw [decide_eq_false e100, br_fq, litm1q, I_add, show ((many + 1 : Nat) : Int) + -1 = (many : Int) from by omega, inb_at (k := 141) (n := 3000) rfl (by omega) (by omega) (by decide), ck_t, lt_e, I_tn (x := (many : Int)) (by omega) (by omega), Int.toNat_natCast]
        obtain ⟨ap, ent, hsum⟩ := WOI_pop a
        have hlast : smm c 0 (many + 1) = smm c 0 many + c many := by show smm c 0 many + c (0 + many) = _; rw [Nat.zero_add]
        have cp := ENT_pos ent
        generalize u.2.2.2 141 many = y at ent ⊢
        have ry := so_r y
        rw [sortOf_e, bnd_so, valueOf_e, bnd_so, show (20 : Int32) = I 20 from rfl, show (21 : Int32) = I 21 from rfl, show (4 : Int32) = I 4 from rfl, show (2 : Int32) = I 2 from rfl, show (3 : Int32) = I 3 from rfl, show (6 : Int32) = I 6 from rfl, show (7 : Int32) = I 7 from rfl, lit1q, decE ry.1 ry.2 (by omega) (by omega), decE ry.1 ry.2 (by omega) (by omega), decE ry.1 ry.2 (by omega) (by omega), decE ry.1 ry.2 (by omega) (by omega), decE ry.1 ry.2 (by omega) (by omega), decE ry.1 ry.2 (by omega) (by omega), decE ry.1 ry.2 (by omega) (by omega), decE ry.1 ry.2 (by omega) (by omega), decE ry.1 ry.2 (by omega) (by omega)]
        have F0 := a.2.1
        have on : ∀ (w : MS) (k : Int), TXT u w k → k ≤ 20 → OK (fun w _ => FR [144] [] [143] [141] u0 w ∧ 0 ≤ F w 144 ∧ F w 144 ≤ B) ((gg_M_writeOn N m).1 w (I p) (I many)) := fun w k t hk => ih1 w many c (WOI_txt ap t (by have := t.2.2; omega)) (by omega)
        by_cases e20 : so y = 20
        · rw [decide_eq_true e20, br_tq]
          exact ok_bnd.mpr (ok_mono (sign_ok F0 (by omega)) (fun w _ q => on w 1 q.1 (by omega)))
        rw [decide_eq_false e20, br_fq]
        by_cases e21 : so y = 21
        · rw [decide_eq_true e21, br_tq]
          rcases ent with ⟨z, -⟩ | ⟨-, z2, z3, d, z4, z5⟩ | ⟨cc, z1, z2⟩
          · exact absurd z e20
          · rw [show va y = (vn y : Int) from by unfold vn; omega]
            refine ok_bnd.mpr (ok_mono (rest_ok hp1 hn g h0 ap hB (by omega) z3 z5 (by omega)) (fun w r q => ?_))
            obtain ⟨m2, c2, q1, q2, q3⟩ := q
            rw [q1]
            exact ih1 w m2 c2 q2 (by omega)
          · exfalso
            rcases SZ_gt z2 with ⟨-, w⟩ | ⟨w, -⟩
            · have := hS y w; omega
            · unfold isH at w; omega
        rw [decide_eq_false e21, br_fq]
        obtain ⟨cc, z1, z2⟩ : ∃ cc, c many = 1 + 2 * cc ∧ SZ h n ow kd Fv P f y cc := by
          rcases ent with ⟨z, -⟩ | ⟨z, -⟩ | z
          · exact absurd z e20
          · exact absurd z e21
          · exact z
        have gy := SZ_gt z2
        by_cases e0 : so y = 0
        · rw [decide_eq_true e0, br_tq]
          exact ok_bnd.mpr (ok_mono (digits_ok F0 (by omega) hN) (fun w _ q => on w 12 q (by omega)))
        rw [decide_eq_false e0, br_fq]
        by_cases e1 : so y = 1
        · rw [decide_eq_true e1, br_tq]
          obtain ⟨a1, a2⟩ := gt_pa hP gy e1
          have ev : va y = ((va y).toNat : Int) := by omega
          obtain ⟨b1, b2, b3⟩ := t3 (va y).toNat (by omega)
          rw [inb_at (k := 13) (n := 2200) rfl (by omega) (by omega) (by decide), ck_t, I_tn (by omega) (by omega), I_A' (show A u 13 (va y).toNat = ((A u0 13 (va y).toNat).toNat : Int) from by rw [FR.A a.1 (by decide)]; omega)]
          rw [ev, Int.toNat_natCast]
          exact ih2 u many (va y).toNat (A u0 13 (va y).toNat).toNat c ap (by omega) (by omega) (by omega) (by omega)
        rw [decide_eq_false e1, br_fq]
        by_cases e4 : so y = 4
        · rw [decide_eq_true e4, br_tq]
          refine ok_bnd.mpr (ok_mono (sign_ok F0 (by omega)) (fun w1 _ q1 => ok_bnd.mpr (ok_mono (digits_ok (by have := q1.2; omega) (by have := q1.2; omega) hN) (fun w2 _ q2 => ok_bnd.mpr (ok_mono (sign_ok (by have := q1.2; have := q2.2.1; omega) (by have := q1.2; have := q2.2.2; omega)) (fun w3 _ q3 => ?_))))))
          exact on w3 14 (TXT.tr (TXT.tr (c := 13) q1.1 q2 (by omega)) q3.1 (by omega)) (by omega)
        rw [decide_eq_false e4, br_fq]
        by_cases e2 : so y = 2
        · rw [decide_eq_true e2, br_tq]
          refine ok_bnd.mpr (ok_mono (sign_ok F0 (by omega)) (fun w1 _ q1 => ok_bnd.mpr (ok_mono (digits_ok (by have := q1.2; omega) (by have := q1.2; omega) hN) (fun w2 _ q2 => ?_))))
          exact on w2 13 (TXT.tr q1.1 q2 (by omega)) (by omega)
        rw [decide_eq_false e2, br_fq]
        by_cases e3 : so y = 3
        · rw [decide_eq_true e3, br_tq]
          refine ok_bnd.mpr (ok_mono (sign_ok F0 (by omega)) (fun w1 _ q1 => ok_bnd.mpr (ok_mono (sign_ok (by have := q1.2; omega) (by have := q1.2; omega)) (fun w2 _ q2 => ok_bnd.mpr (ok_mono (sign_ok (by have := q1.2; have := q2.2; omega) (by have := q1.2; have := q2.2; omega)) (fun w3 _ q3 => ?_))))))
          exact on w3 3 (TXT.tr (TXT.tr (c := 2) q1.1 q2.1 (by omega)) q3.1 (by omega)) (by omega)
        rw [decide_eq_false e3, br_fq]
        by_cases e6 : so y = 6
        · rw [decide_eq_true e6, br_tq]
          refine ok_bnd.mpr (ok_mono (sign_ok F0 (by omega)) (fun w1 _ q1 => ok_bnd.mpr (ok_mono (sign_ok (by have := q1.2; omega) (by have := q1.2; omega)) (fun w2 _ q2 => ?_))))
          exact on w2 2 (TXT.tr q1.1 q2.1 (by omega)) (by omega)
        rw [decide_eq_false e6, br_fq]
        have hy : isH y := by
          rcases gy with ⟨-, w⟩ | ⟨w, -⟩
          · have := hS y w; omega
          · exact w
        obtain ⟨b, pt⟩ := HP_bk g hy gy
        have bn := b.2.2.2.1
        have bp := blk_pos (h := h) hy
        have vy : va y = (vn y : Int) := by have := b.1; unfold vn; omega
        obtain ⟨f', hf'⟩ : ∃ f', f = f' + 1 := by cases f with | zero => exact z2.elim | succ f' => exact ⟨f', rfl⟩
        subst hf'
        rcases z2 with ⟨w, -⟩ | ⟨-, -, d, z3, z4⟩
        · exact absurd hy w
        by_cases e7 : so y = 7
        · rw [decide_eq_true e7, br_tq]
          refine ok_bnd.mpr (ok_mono (sign_ok F0 (by omega)) (fun w _ q => ?_))
          have aw := WOI_txt ap q.1 (by have := q.2; omega)
          have bb : blk h y = 2 := by unfold blk; rw [e7]; rfl
          have pp : prt y = 0 := by unfold prt; rw [e7]; rfl
          rw [bb, pp] at z3 z4
          have zd : cc = 2 + (d 0 + d 1) := by rw [z4]; show 2 + (0 + d (0 + 0) + d (0 + 1)) = _; simp
          rw [vy, term_e, bnd_so, ck_t, lt_e, wj_e, cell_e hp1 (by omega), bnd_so, I_add, inb_at (k := 141) (n := 3000) rfl (by omega) (by omega) (by decide), ck_t, lt_e, I_tn (by omega) (by omega), show ((many : Int) + 1).toNat = many + 1 from by omega, wj_e, I_add]
          have ehw : hp (wj w 141 many (mk 21 (vn y : Int))) p = h := by rw [← h0]; unfold hp; rw [wj_ne (show 88 ≠ 141 by decide), aw.1.2.2.2 88 (by decide)]
          rw [ehw]
          have e21 : so (mk 21 (vn y : Int)) = 21 := so_mk (by omega) (by omega)
          have v21 : va (mk 21 (vn y : Int)) = (vn y : Int) := va_mk (by omega) (by omega)
          have n21 : vn (mk 21 (vn y : Int)) = vn y := by show (va _).toNat = _; rw [v21]; omega
          have en1 : ENT h n ow kd Fv P (f' + 1) (mk 21 (vn y : Int)) (3 + 2 * d 1) := Or.inr (Or.inl ⟨e21, by omega, by rw [n21]; omega, d 1, rfl, by rw [n21]; exact SZ_mono (z3 1 (by omega) (by omega))⟩)
          have en2 : ENT h n ow kd Fv P (f' + 1) (h (vn y)) (1 + 2 * d 0) := Or.inr (Or.inr ⟨d 0, rfl, SZ_mono (z3 0 (by omega) (by omega))⟩)
          have w1 := WOI_push aw en1 (by omega)
          have w2 := WOI_push w1 en2 (by rw [smm_upd]; omega)
          have := ih1 _ (many + 2) _ w2 (by rw [smm_upd, smm_upd]; omega)
          rw [show ((many + 2 : Nat) : Int) = (many : Int) + 2 from by omega] at this
          exact this
        rw [decide_eq_false e7, br_fq]
        have e5 : so y = 5 := by unfold isH at hy; omega
        refine ok_bnd.mpr (ok_mono (sign_ok F0 (by omega)) (fun w _ q => ?_))
        have aw := WOI_txt ap q.1 (by have := q.2; omega)
        have bb : blk h y = 1 + vn (h (vn y)) := by unfold blk; rw [e5]; rfl
        have pp : prt y = 1 := by unfold prt; rw [e5]; rfl
        have b5 := (b.2.1 e5).1
        rw [bb, pp, Nat.add_sub_cancel_left] at z4
        rw [bb, pp] at z3
        rw [vy, show (125 : Int32) = I 125 from rfl, term_e, bnd_so, ck_t, lt_e, wj_e, cell_e hp1 (by omega), bnd_so, I_add]
        have ehw : hp (wj w 141 many (mk 20 125)) p = h := by rw [← h0]; unfold hp; rw [wj_ne (show 88 ≠ 141 by decide), aw.1.2.2.2 88 (by decide)]
        rw [ehw, I_of (h (vn y)).toInt32]
        have en1 : ENT h n ow kd Fv P (f' + 1) (mk 20 125) 1 := Or.inl ⟨so_mk (by omega) (by omega), rfl⟩
        have w1 := WOI_push aw en1 (by omega)
        have := ih3 _ (many + 1) (vn y) (vn (h (vn y))) _ d w1 (by omega) (fun i a b2 => SZ_mono (z3 i a b2)) (by rw [smm_upd]; omega) (by rw [smm_upd]; omega)
        rw [show ((many + 1 : Nat) : Int) = (many : Int) + 1 from by omega, show ((vn (h (vn y)) : Nat) : Int) = (h (vn y)).toInt32.toInt from by show (((va (h (vn y))).toNat : Nat) : Int) = va (h (vn y)); omega] at this
        exact this
    · have hmany := WOI_many a
      obtain ⟨b1, b2, b3⟩ := t3 v hv
      show OK _ (fb_M_writeOn_116 N (gg_M_writeOn N m) u (I p) (I many) (I v) (I k))
      unfold fb_M_writeOn_116 fb_M_writeOn_384
      rw [lit1q, I_add, inb_at (k := 13) (n := 2200) rfl (by omega) (by omega) (by decide), ck_t, I_tn (by omega) (by omega), show ((v : Int) + 1).toNat = v + 1 from by omega, I_A' (show A u 13 (v + 1) = A u0 13 (v + 1) from FR.A a.1 (by decide)), decI (by omega) (by omega) (by omega) (by omega)]
      by_cases e : A u0 13 (v + 1) ≤ k
      · rw [decide_eq_true e, br_tq]
        exact ih1 u many c a (by omega)
      · rw [decide_eq_false e, br_fq, inb_at (k := 12) (n := 5000) rfl (by omega) (by omega) (by decide), ck_t]
        refine ok_bnd.mpr (ok_mono (sign_ok a.2.1 (by omega)) (fun w _ q => ?_))
        have := q.2
        rw [I_add]
        exact ih2 w many v (k + 1) c (WOI_txt a q.1 (by omega)) hv (by omega) (by omega) (by omega)
    · have hmany := WOI_many a
      show OK _ (fb_M_writeOn_329 N (gg_M_writeOn N m) u (I p) (I many) (I v) (I k))
      unfold fb_M_writeOn_329 fb_M_writeOn_378 fb_M_writeOn_384
      have eh : hp u p = h := by rw [← h0]; unfold hp; rw [a.1.2.2.2 88 (by decide)]
      rw [lit1q, decL (by omega) (by omega) (by omega) (by omega)]
      cases k with
      | zero =>
        rw [decide_eq_true (by omega), br_tq]
        exact ih1 u many c a (by omega)
      | succ k =>
        have hsd : smm d 1 (k + 1) = smm d 1 k + d (1 + k) := rfl
        rw [decide_eq_false (by omega), br_fq, I_add, show (v : Int) + ((k + 1 : Nat) : Int) = ((v + (k + 1) : Nat) : Int) from by omega, cell_e hp1 (by omega), bnd_so, eh, inb_at (k := 141) (n := 3000) rfl (by omega) (by omega) (by decide), ck_t, lt_e, I_tn (x := (many : Int)) (by omega) (by omega), Int.toNat_natCast, wj_e, decI (by omega) (by omega) (by omega) (by omega), I_neg, I_add, I_add, I_add]
        have en1 : ENT h n ow kd Fv P f (h (v + (k + 1))) (1 + 2 * d (1 + k)) := Or.inr (Or.inr ⟨d (1 + k), rfl, by have := hd (1 + k) (by omega) (by omega); rw [show v + (1 + k) = v + (k + 1) from by omega] at this; exact this⟩)
        have w1 := WOI_push a en1 (by omega)
        by_cases e : k = 0
        · subst e
          rw [decide_eq_true (by omega), br_tq]
          have := ih3 _ (many + 1) v 0 _ d w1 (by omega) (fun i a b2 => by omega) (by rw [smm_upd]; show _ + (2 * 0 + 2 * 0) ≤ 2001; omega) (by rw [smm_upd]; show 5100 * (_ + (2 * 0 + 2 * 0)) + 0 + 2 < m; omega)
          exact this
        · rw [decide_eq_false (by omega), br_fq, show (20 : Int32) = I 20 from rfl, show (44 : Int32) = I 44 from rfl, term_e, bnd_so, inb_at (k := 141) (n := 3000) rfl (by omega) (by omega) (by decide), ck_t, lt_e, I_tn (by omega) (by omega), show ((many : Int) + 1).toNat = many + 1 from by omega, wj_e]
          have en2 : ENT h n ow kd Fv P f (mk 20 44) 1 := Or.inl ⟨so_mk (by omega) (by omega), rfl⟩
          have w2 := WOI_push w1 en2 (by rw [smm_upd]; omega)
          have := ih3 _ (many + 1 + 1) v k _ d w2 (by omega) (fun i a b2 => hd i a (by omega)) (by rw [smm_upd, smm_upd]; omega) (by rw [smm_upd, smm_upd]; omega)
          rw [show ((k + 1 : Nat) : Int) + -1 = (k : Int) from by omega, show (many : Int) + 1 + 1 = ((many + 1 + 1 : Nat) : Int) from by omega]
          exact this
theorem writeOn_ok {t : Int64} (hB : 6000 ≤ B ∧ B ≤ 90000) (hp1 : p < 25) (hn : n ≤ 500) (g : HP (hp u0 p) n ow kd Fv P) (hat : ATM u0) (hP : ∀ t, P t → PA u0 t) (hS : PS P) (ht : GT n ow kd P t) (h1 : 0 ≤ F u0 144) (h2 : F u0 144 ≤ B) (hN : 11000000 ≤ N) : OK (fun w _ => FR [144] [] [143] [141] u0 w ∧ 0 ≤ F w 144 ∧ F w 144 ≤ B) (fm_M_writeOn N u0 (I p) t) := by
  obtain ⟨f, s, z⟩ := HP_sz g ht
  have hs := SZ_1000 g hn z
  unfold fm_M_writeOn fb_M_writeOn_0
  rw [lit0q, lit1q, inb_at (k := 141) (n := 3000) rfl (by omega) (by omega) (by decide), ck_t, lt_e, I_tn (by omega) (by omega), wj_e]
  refine (wo_loop (f := f) hB hp1 hn g rfl hat hP hS (by omega) N).1 (wj u0 141 0 t) 1 (fun _ => 1 + 2 * s) ⟨FR.wj FR.rf (by decide), h1, h2, fun i hi => ?_, by show 0 + (1 + 2 * s) ≤ 2001; omega⟩ (by show 5100 * (0 + (1 + 2 * s)) + 1 < N; omega)
  have e : i = 0 := by omega
  subst e
  rw [J_wj, if_pos rfl, if_pos rfl]
  exact Or.inr (Or.inr ⟨s, rfl, z⟩)
end
end
section
section
variable {h : Nat → Int64} {n : Nat} {ow kd : Nat → Nat} {Fv : Int64 → Int64 → Prop} {P : Int64 → Prop}
theorem SZ_own {h2 : Nat → Int64} {n2 : Nat} {ow2 kd2 : Nat → Nat} {Fv2 : Int64 → Int64 → Prop} {P2 : Int64 → Prop} (hn : n ≤ n2) (hh : ∀ i, i < n → ow i ≤ i → h2 i = h i) (ho : ∀ i, i < n → ow i ≤ i → ow2 i = ow i) (hk : ∀ i, i < n → ow i ≤ i → kd2 i = kd i) (hF : ∀ a b, Fv a b → Fv2 a b) (hP : ∀ t, P t → P2 t) : ∀ {f : Nat} {t : Int64} {s : Nat}, SZ h n ow kd Fv P f t s → SZ h2 n2 ow2 kd2 Fv2 P2 f t s
  | 0, _, _, z => z.elim
  | f + 1, t, s, z => by
    rcases z with ⟨z1, z2, z3⟩ | ⟨z1, ⟨b1, b2, b3, b4, b5, b6⟩, c, z3, z4⟩
    · exact Or.inl ⟨z1, hP t z2, z3⟩
    · have hb := blk_pos (h := h) z1
      have o0 : ow (vn t) = vn t := b6 0 hb
      have e0 : h2 (vn t) = h (vn t) := hh _ (by omega) (by omega)
      have e1 : so t = 3 → h2 (vn t + 1) = h (vn t + 1) := fun e => by
        have := blk_2 (h := h) e
        have := b6 1 (by omega)
        exact hh _ (by omega) (by omega)
      have eb : blk h2 t = blk h t := by
        unfold blk
        rw [e0]
        by_cases e : so t = 3
        · rw [e1 e]
        · simp [e]
      refine Or.inr ⟨z1, ⟨b1, fun e => by rw [e0]; exact b2 e, fun e => ?_, by omega, ?_, ?_⟩, c, ?_, ?_⟩
      · rw [e0, e1 e]; exact ⟨(b3 e).1, hF _ _ (b3 e).2⟩
      · rw [hk _ (by omega) (by omega)]; exact b5
      · rw [eb]; intro j hj; have := b6 j hj; rw [ho _ (by omega) (by omega)]; exact this
      · rw [eb]; intro j a b; have := b6 j b; rw [hh _ (by omega) (by omega)]; exact SZ_own hn hh ho hk hF hP (z3 j a b)
      · rw [eb]; exact z4
theorem HP_own {h2 : Nat → Int64} {n2 : Nat} {ow2 kd2 : Nat → Nat} (g : HP h n ow kd Fv P) (hn : n ≤ n2) (hh : ∀ i, i < n → ow i ≤ i → h2 i = h i) (ho : ∀ i, i < n → ow i ≤ i → ow2 i = ow i) (hk : ∀ i, i < n → ow i ≤ i → kd2 i = kd i) (hx : ∀ i, i < n2 → ow2 i = i → i < n ∧ ow i = i) : HP h2 n2 ow2 kd2 Fv P := by
  intro t ht gt
  rcases gt with ⟨z, -⟩ | ⟨-, g1, g2, g3, g4⟩
  · exact absurd ht z
  obtain ⟨q1, q2⟩ := hx _ g2 g3
  have gt0 : GT n ow kd P t := Or.inr ⟨ht, g1, q1, q2, by rw [← hk _ q1 (by omega)]; exact g4⟩
  obtain ⟨f, s, z1, z2⟩ := g t ht gt0
  refine ⟨f, s, SZ_own hn hh ho hk (fun _ _ q => q) (fun _ q => q) z1, fun h5 => ?_⟩
  obtain ⟨r1, r2, r3⟩ := z2 h5
  have b := (HP_bk g ht gt0).1
  have b6 := b.2.2.2.2.2
  have b4 := b.2.2.2.1
  have o1 := b6 1 (by omega)
  refine ⟨r1, ?_, by rw [hh _ (by omega) (by omega)]; exact r3⟩
  have q2' := r2
  unfold blk at q2' ⊢
  rw [r1] at q2' ⊢
  simp at q2' ⊢
  rw [hh _ q1 (by omega)]; exact q2'
theorem GT_own {n2 : Nat} {ow2 kd2 : Nat → Nat} {t : Int64} (gt : GT n ow kd P t) (hn : n ≤ n2) (ho : ∀ i, i < n → ow i ≤ i → ow2 i = ow i) (hk : ∀ i, i < n → ow i ≤ i → kd2 i = kd i) : GT n2 ow2 kd2 P t := by
  rcases gt with z | ⟨z1, z2, z3, z4, z5⟩
  · exact Or.inl z
  · exact Or.inr ⟨z1, z2, by omega, by rw [ho _ z3 (by omega)]; exact z4, by rw [hk _ z3 (by omega)]; exact z5⟩
def owH (n : Nat) (ow : Nat → Nat) : Nat → Nat := fun i => if n ≤ i then i + 1 else ow i
theorem HP_hole {h2 : Nat → Int64} (m : Nat) (g : HP h n ow kd Fv P) (hh : ∀ i, i < n → h2 i = h i) : HP h2 (n + m) (owH n ow) kd Fv P :=
  HP_own g (by omega) (fun i hi _ => hh i hi) (fun i hi _ => if_neg (by omega)) (fun _ _ _ => rfl) (fun i hi e => by
    unfold owH at e
    by_cases q : n ≤ i
    · rw [if_pos q] at e; omega
    · rw [if_neg q] at e; exact ⟨by omega, e⟩)
theorem GT_hole {t : Int64} (m : Nat) (gt : GT n ow kd P t) : GT (n + m) (owH n ow) kd P t := GT_own gt (by omega) (fun i hi _ => if_neg (by omega)) (fun _ _ _ => rfl)
theorem SZ_hole {h2 : Nat → Int64} {f : Nat} {t : Int64} {s : Nat} (m : Nat) (hh : ∀ i, i < n → h2 i = h i) (z : SZ h n ow kd Fv P f t s) : SZ h2 (n + m) (owH n ow) kd Fv P f t s := SZ_own (by omega) (fun i hi _ => hh i hi) (fun i hi _ => if_neg (by omega)) (fun _ _ _ => rfl) (fun _ _ q => q) (fun _ q => q) z
theorem HP_put (g : HP h n ow kd Fv P) {h2 : Nat → Int64} {m k : Nat} {x : Int64} (hh : ∀ i, ¬ (k ≤ i ∧ i < k + m) → h2 i = h i) (hkm : k + m ≤ n) (hno : ∀ j, j < m → k + j < ow (k + j)) (hx : isH x) (h0 : 0 ≤ va x) (hv : vn x = k) (hb : blk h2 x = m)
    (b2 : so x = 5 → HDC (h2 k)) (b3 : so x = 3 → 0 ≤ va (h2 (k + 1)) ∧ Fv (h2 k) (h2 (k + 1)))
    (hp : ∀ j, prt x ≤ j → j < m → GT n ow kd P (h2 (k + j)))
    (hs : (so x = 5 ∧ m = 3 ∧ ¬ isH (h2 (k + 1))) ∨ ∀ f c, (∀ j, prt x ≤ j → j < m → SZ h n ow kd Fv P f (h2 (k + j)) (c j)) → m + smm c (prt x) (m - prt x) ≤ 500) :
    ∃ ow2 kd2, (∀ i, i < n → ow i ≤ i → ow2 i = ow i) ∧ (∀ i, i < n → ow i ≤ i → kd2 i = kd i) ∧ (∀ i, ¬ (k ≤ i ∧ i < k + m) → ow2 i = ow i) ∧ HP h2 n ow2 kd2 Fv P ∧ GT n ow2 kd2 P x ∧ (∀ f t s, SZ h n ow kd Fv P f t s → SZ h2 n ow2 kd2 Fv P f t s) ∧ ∀ f c, (∀ j, prt x ≤ j → j < m → SZ h n ow kd Fv P f (h2 (k + j)) (c j)) → SZ h2 n ow2 kd2 Fv P (f + 1) x (m + smm c (prt x) (m - prt x)) := by
  have mp : 0 < m := by rw [← hb]; exact blk_pos hx
  have sx : 0 ≤ so x := by rcases hx with e | e | e <;> omega
  have out : ∀ i, i < n → ow i ≤ i → ¬ (k ≤ i ∧ i < k + m) := fun i _ q z => by
    have := hno (i - k) (by omega)
    rw [show k + (i - k) = i from by omega] at this
    omega
  have ho : ∀ i, i < n → ow i ≤ i → (fun i => if k ≤ i ∧ i < k + m then k else ow i) i = ow i := fun i a b => if_neg (out i a b)
  have hk : ∀ i, i < n → ow i ≤ i → (fun i => if i = k then (so x).toNat else kd i) i = kd i := fun i a b => if_neg (fun z => out i a b (by omega))
  have ext : ∀ f t s, SZ h n ow kd Fv P f t s → SZ h2 n (fun i => if k ≤ i ∧ i < k + m then k else ow i) (fun i => if i = k then (so x).toNat else kd i) Fv P f t s := fun f t s z =>
    SZ_own (Nat.le_refl _) (fun i a b => hh i (out i a b)) ho hk (fun _ _ q => q) (fun _ q => q) z
  have bkt : ∀ t : Int64, isH t → 0 ≤ va t → vn t = k → so t = so x → BK h2 n (fun i => if k ≤ i ∧ i < k + m then k else ow i) (fun i => if i = k then (so x).toNat else kd i) Fv t ∧ blk h2 t = m ∧ prt t = prt x := fun t _ t0 tv ts => by
    have eb : blk h2 t = m := by rw [← hb]; unfold blk; rw [ts, tv, hv]
    refine ⟨⟨t0, by rw [tv, ts]; exact b2, by rw [tv, ts]; exact b3, by rw [eb, tv]; exact hkm, ?_, ?_⟩, eb, prt_so ts⟩
    · show ((if vn t = k then (so x).toNat else kd (vn t) : Nat) : Int) = so t
      rw [if_pos tv, ts]; omega
    · rw [eb]
      intro j hj
      show (if k ≤ vn t + j ∧ vn t + j < k + m then k else _) = vn t
      rw [if_pos (by omega), tv]
  have szx : ∀ t : Int64, isH t → 0 ≤ va t → vn t = k → so t = so x → ∀ f c, (∀ j, prt x ≤ j → j < m → SZ h n ow kd Fv P f (h2 (k + j)) (c j)) → SZ h2 n (fun i => if k ≤ i ∧ i < k + m then k else ow i) (fun i => if i = k then (so x).toNat else kd i) Fv P (f + 1) t (m + smm c (prt x) (m - prt x)) := fun t th t0 tv ts f c hc => by
    obtain ⟨q1, q2, q3⟩ := bkt t th t0 tv ts
    exact Or.inr ⟨th, q1, c, by rw [q2, q3, tv]; exact fun j a b => ext _ _ _ (hc j a b), by rw [q2, q3]⟩
  obtain ⟨f0, c0, hc0⟩ := SZ_all (h := h) (n := n) (ow := ow) (kd := kd) (Fv := Fv) (P := P) (m := m - prt x) (q := fun j => h2 (k + (prt x + j))) (fun j hj => HP_sz g (hp (prt x + j) (by omega) (by omega)))
  have hc1 : ∀ j, prt x ≤ j → j < m → SZ h n ow kd Fv P f0 (h2 (k + j)) ((fun j => c0 (j - prt x)) j) := fun j h1 h2' => by
    have := hc0 (j - prt x) (by omega)
    rw [show prt x + (j - prt x) = j from by omega] at this
    exact this
  refine ⟨_, _, ho, hk, fun i hi => if_neg hi, ?_, BK_gt hx (bkt x hx h0 hv rfl).1, ext, szx x hx h0 hv rfl⟩
  intro t ht gt
  rcases gt with ⟨z, -⟩ | ⟨-, g1, g2, g3, g4⟩
  · exact absurd ht z
  by_cases e : vn t = k
  · have e2 : so t = so x := by
      have := g4
      simp only [if_pos e] at this
      omega
    have sz2 := szx t ht g1 e e2 f0 _ hc1
    obtain ⟨q1, q2, q3⟩ := bkt t ht g1 e e2
    refine ⟨_, _, sz2, fun h5 => ?_⟩
    rcases hs with ⟨s1, s2, s3⟩ | hs
    · exact ⟨by rw [e2]; exact s1, by rw [q2]; exact s2, by rw [e]; exact s3⟩
    · have := hs f0 _ hc1; omega
  · have e1 : ow (vn t) = vn t := by
      have := g3
      by_cases q : k ≤ vn t ∧ vn t < k + m
      · simp only [if_pos q] at this; omega
      · simp only [if_neg q] at this; exact this
    have e2 : (kd (vn t) : Int) = so t := by have := g4; simp only [if_neg e] at this; exact this
    have gt0 : GT n ow kd P t := Or.inr ⟨ht, g1, g2, e1, e2⟩
    obtain ⟨f, s, z1, z2⟩ := g t ht gt0
    refine ⟨f, s, ext _ _ _ z1, fun h5 => ?_⟩
    obtain ⟨r1, r2, r3⟩ := z2 h5
    have b := (HP_bk g ht gt0).1
    have b6 := b.2.2.2.2.2
    have b4 := b.2.2.2.1
    have o1 := b6 1 (by omega)
    refine ⟨r1, ?_, by rw [hh _ (out _ (by omega) (by omega))]; exact r3⟩
    have q2' := r2
    unfold blk at q2' ⊢
    rw [r1] at q2' ⊢
    simp at q2' ⊢
    rw [hh _ (out _ g2 (by omega))]; exact q2'
end
end
section
def GTP (Fv : Int64 → Int64 → Prop) (P : Int64 → Prop) (w : MS) (o : Nat) (t : Int64) : Prop := ∃ n ow kd, A w 89 o = ((n : Nat) : Int) ∧ n ≤ 500 ∧ HP (hp w o) n ow kd Fv P ∧ GT n ow kd P t
def TE (Fv : Int64 → Int64 → Prop) (P : Int64 → Prop) (w : MS) (PR o : Nat) (t : Int64) : Prop := (¬ isH t ∧ P t) ∨ (isH t ∧ (o = 24 ∨ (o < PR ∧ A w 109 o = 3)) ∧ GTP Fv P w o t)
def cE (w : MS) : Nat → Nat
  | 0 => 0
  | k + 1 => cE w k + (if A w 109 k = 3 then 1 else 0)
def EQ (Fv : Int64 → Int64 → Prop) (P : Int64 → Prop) (w : MS) (PR : Nat) : Prop := ∃ eF eM : Nat, F w 149 = eF ∧ F w 150 = eM ∧ eF ≤ eM ∧ eM ≤ cE w PR ∧ ∀ i, eF ≤ i → i < eM → (0 ≤ A w 145 i ∧ A w 145 i < PR) ∧ (0 ≤ A w 146 i ∧ A w 146 i ≤ 2) ∧ (0 ≤ A w 147 i ∧ A w 147 i ≤ 24) ∧ TE Fv P w PR (A w 147 i).toNat (w.2.2.2 148 i)
def PRC (Fv : Int64 → Int64 → Prop) (P : Int64 → Prop) (w : MS) (p : Nat) : Prop := ∃ n ow kd opM bnM bxM, A w 89 p = ((n : Nat) : Int) ∧ CX w p (hp w p) n ow kd Fv P opM bnM bxM
def DW (Fv : Int64 → Int64 → Prop) (P : Int64 → Prop) (PR : Nat) (w : MS) : Prop :=
  (F w 118 = PR ∧ PR ≤ 24) ∧ (∀ p, p < PR → PRC Fv P w p) ∧ (∃ n ow kd, A w 89 24 = ((n : Nat) : Int) ∧ n ≤ 500 ∧ HP (hp w 24) n ow kd Fv P) ∧ F w 140 = -1 ∧ EQ Fv P w PR ∧ (∀ p, p < PR → A w 109 p = 0 ∨ A w 109 p = 1 ∨ A w 109 p = 3 ∨ A w 109 p = 5)
theorem cE_le (w : MS) : ∀ k, cE w k ≤ k
  | 0 => Nat.le_refl _
  | k + 1 => by
    show cE w k + _ ≤ k + 1
    have := cE_le w k
    split <;> omega
theorem cE_eq {w w2 : MS} : ∀ k, (∀ p, p < k → A w2 109 p = A w 109 p) → cE w2 k = cE w k
  | 0, _ => rfl
  | k + 1, h => by
    show cE w2 k + _ = cE w k + _
    rw [cE_eq k (fun p hp => h p (by omega)), h k (by omega)]
theorem cE_up {w w2 : MS} {q : Nat} (hq : A w 109 q ≠ 3) (h1 : A w2 109 q = 3) (h2 : ∀ p, p ≠ q → A w2 109 p = A w 109 p) : ∀ k, q < k → cE w2 k = cE w k + 1
  | 0, h => absurd h (Nat.not_lt_zero _)
  | k + 1, h => by
    show cE w2 k + (if A w2 109 k = 3 then 1 else 0) = cE w k + (if A w 109 k = 3 then 1 else 0) + 1
    by_cases e : k = q
    · subst e
      rw [if_pos h1, if_neg hq, cE_eq k (fun p hp => h2 p (by omega))]
    · rw [cE_up hq h1 h2 k (by omega), h2 k e]; omega
section
variable {Fv : Int64 → Int64 → Prop} {P : Int64 → Prop} {w w2 : MS} {PR N : Nat}
theorem GTP_same {o : Nat} {t : Int64} (g : GTP Fv P w o t) (h1 : A w2 89 o = A w 89 o) (h2 : hp w2 o = hp w o) : GTP Fv P w2 o t := by
  obtain ⟨n, ow, kd, a, b, c, d⟩ := g
  exact ⟨n, ow, kd, by rw [h1]; exact a, b, by rw [h2]; exact c, d⟩
theorem PRC_same {p : Nat} (g : PRC Fv P w p) (h1 : A w2 89 p = A w 89 p) (h2 : hp w2 p = hp w p) (h3 : A w2 92 p = A w 92 p) (h4 : A w2 94 p = A w 94 p) (h5 : A w2 108 p = A w 108 p) (r1 : ∀ i, i < 46000 → w2.2.2.2 91 (46000 * p + i) = w.2.2.2 91 (46000 * p + i)) (r2 : ∀ i, i < 2500 → w2.2.2.2 93 (2500 * p + i) = w.2.2.2 93 (2500 * p + i)) (r3 : ∀ i, i < 30 → w2.2.2.2 107 (30 * p + i) = w.2.2.2 107 (30 * p + i)) (hh : F w2 140 ≠ p) : PRC Fv P w2 p := by
  obtain ⟨n, ow, kd, opM, bnM, bxM, a, x1, x2, x3, x4, x5, x6, x7, x8, x9, x10, x11⟩ := g
  exact ⟨n, ow, kd, opM, bnM, bxM, by rw [h1]; exact a, rfl, by rw [h2]; exact x2, x3, x4, by rw [h3]; exact x5, by rw [h4]; exact x6, by rw [h5]; exact x7, fun i hi => by rw [r1 i (by omega)]; exact x8 i hi, fun i hi => by rw [r2 i (by omega)]; exact x9 i hi, fun i hi => by rw [r3 i (by omega)]; exact x10 i hi, fun z => absurd z hh⟩
theorem DW_q {q : Nat} (d : DW Fv P PR w) (hq : q < PR) (hal : A w 109 q ≠ 3) (nq : PRC Fv P w2 q) (f : FR [136, 138, 140] [139] [89, 90, 92, 94, 108, 135, 142] [88, 91, 93, 107, 134, 137, 141] w w2) (f140 : F w2 140 = -1)
    (h89 : ∀ p, p ≠ q → A w2 89 p = A w 89 p) (h92 : ∀ p, p ≠ q → A w2 92 p = A w 92 p) (h94 : ∀ p, p ≠ q → A w2 94 p = A w 94 p) (h108 : ∀ p, p ≠ q → A w2 108 p = A w 108 p)
    (h88 : ∀ i, ¬ (500 * q ≤ i ∧ i < 500 * q + 500) → w2.2.2.2 88 i = w.2.2.2 88 i) (h91 : ∀ i, ¬ (46000 * q ≤ i ∧ i < 46000 * q + 46000) → w2.2.2.2 91 i = w.2.2.2 91 i) (h93 : ∀ i, ¬ (2500 * q ≤ i ∧ i < 2500 * q + 2500) → w2.2.2.2 93 i = w.2.2.2 93 i) (h107 : ∀ i, ¬ (30 * q ≤ i ∧ i < 30 * q + 30) → w2.2.2.2 107 i = w.2.2.2 107 i) : DW Fv P PR w2 := by
  obtain ⟨⟨d1, d1'⟩, d2, ⟨n4, ow4, kd4, d3a, d3b, d3c⟩, d4, d5, d6⟩ := d
  have n24 : q ≠ 24 := by omega
  have hpe : ∀ p, p ≠ q → A w2 89 p = A w 89 p → ∀ n, n ≤ 500 → True := fun _ _ _ _ _ => trivial
  have cell : ∀ p i, p ≠ q → i < 500 → hp w2 p i = hp w p i := fun p i hp1 hi => by
    unfold hp
    exact h88 _ (by omega)
  have hpHP : ∀ p, p ≠ q → ∀ n ow kd, n ≤ 500 → HP (hp w p) n ow kd Fv P → HP (hp w2 p) n ow kd Fv P := fun p hp1 n ow kd hn g =>
    HP_own g (Nat.le_refl _) (fun i hi _ => cell p i hp1 (by omega)) (fun _ _ _ => rfl) (fun _ _ _ => rfl) (fun i hi e => ⟨hi, e⟩)
  have gtp : ∀ o t, o ≠ q → GTP Fv P w o t → GTP Fv P w2 o t := fun o t ho ⟨n, ow, kd, a, b, c, e⟩ => ⟨n, ow, kd, by rw [h89 o ho]; exact a, b, hpHP o ho n ow kd b c, e⟩
  refine ⟨⟨by rw [FR.F f (by decide)]; exact d1, d1'⟩, fun p hp1 => ?_, ⟨n4, ow4, kd4, by rw [h89 24 (Ne.symm n24)]; exact d3a, d3b, hpHP 24 (Ne.symm n24) _ _ _ d3b d3c⟩, f140, ?_, fun p hp1 => by rw [FR.A f (by decide)]; exact d6 p hp1⟩
  · by_cases e : p = q
    · rw [e]; exact nq
    · obtain ⟨n, ow, kd, opM, bnM, bxM, a, x1, x2, x3, x4, x5, x6, x7, x8, x9, x10, x11⟩ := d2 p hp1
      exact ⟨n, ow, kd, opM, bnM, bxM, by rw [h89 p e]; exact a, rfl, hpHP p e _ _ _ x3 x2, x3, x4, by rw [h92 p e]; exact x5, by rw [h94 p e]; exact x6, by rw [h108 p e]; exact x7, fun i hi => by rw [h91 _ (by omega)]; exact x8 i hi, fun i hi => by rw [h93 _ (by omega)]; exact x9 i hi, fun i hi => by rw [h107 _ (by omega)]; exact x10 i hi, fun z => by omega⟩
  · obtain ⟨eF, eM, e1, e2, e3, e4, e5⟩ := d5
    refine ⟨eF, eM, by rw [FR.F f (by decide)]; exact e1, by rw [FR.F f (by decide)]; exact e2, e3, by rw [cE_eq PR (fun p _ => FR.A f (by decide))]; exact e4, fun i h1 h2 => ?_⟩
    obtain ⟨q1, q2, q3, q4⟩ := e5 i h1 h2
    rw [FR.A f (by decide), FR.A f (by decide), FR.A f (by decide), f.2.2.2 148 (by decide)]
    refine ⟨q1, q2, q3, ?_⟩
    rcases q4 with q4 | ⟨q4, q5, q6⟩
    · exact Or.inl q4
    · refine Or.inr ⟨q4, ?_, gtp _ _ (fun z => ?_) q6⟩
      · rw [FR.A f (by decide)]; exact q5
      · rcases q5 with q5 | ⟨q5, q7⟩
        · omega
        · rw [z] at q7; exact hal q7
end
end
section
def PB (P : Int64 → Prop) (PR : Nat) : Prop := (∀ a : Int, 0 ≤ a → a < 22 → P (mk 1 a)) ∧ (∀ p : Nat, p < PR → P (mk 4 p)) ∧ (∀ r : Int, -2147483648 ≤ r → r < 2147483648 → P (mk 2 r)) ∧ (∀ r : Int, -2147483648 ≤ r → r < 2147483648 → P (mk 0 r)) ∧ P (mk 6 0)
theorem A_ne {u : MS} {k i k2 i2 : Nat} {x : Int} (h : k2 ≠ k) : A (wa u k i x) k2 i2 = A u k2 i2 := by unfold A wa upA; simp only [if_neg h]
theorem A_eq {u : MS} {k i i2 : Nat} {x : Int} (h1 : -2147483648 ≤ x) (h2 : x < 2147483648) : A (wa u k i x) k i2 = if i2 = i then x else A u k i2 := by rw [A_wa h1 h2, if_pos rfl]
theorem nh_mk {s v : Int} (h : s = 0 ∨ s = 1 ∨ s = 2 ∨ s = 4 ∨ s = 6) : ¬ isH (mk s v) := by
  unfold isH
  rw [so_mk (by omega) (by omega)]
  omega
section
variable {Fv : Int64 → Int64 → Prop} {P : Int64 → Prop} {w0 w w2 : MS} {PR N q n n2 opM bnM bxM : Nat} {ow kd ow2 kd2 : Nat → Nat}
theorem willEnd_ok {p o : Nat} {wr : Int} {t : Int64} (d : DW Fv P PR w) (hp1 : p < PR) (hw : 0 ≤ wr ∧ wr ≤ 2) (ho : o ≤ 24) (ht : (¬ isH t ∧ P t) ∨ (isH t ∧ (o = 24 ∨ (o < PR ∧ (A w 109 o = 3 ∨ o = p))) ∧ GTP Fv P w o t)) :
    OK (fun w2 _ => DW Fv P PR w2 ∧ FR [150] [] [109, 145, 146, 147] [148] w w2 ∧ A w2 109 p = 3 ∧ ∀ z, z ≠ p → A w2 109 z = A w 109 z) (fm_M_willEnd N w (I p) (I wr) (I o) t) := by
  obtain ⟨⟨d1, d1'⟩, d2, d3, d4, ⟨eF, eM, e1, e2, e3, e4, e5⟩, d6⟩ := id d
  have hc := cE_le w PR
  unfold fm_M_willEnd fb_M_willEnd_0 fb_M_willEnd_68
  have hr := A_r w 109 p
  rw [inb_at (k := 109) (n := 24) rfl (by omega) (by omega) (by decide), ck_t, I_tn (by omega) (by omega), Int.toNat_natCast, I_A, show (3 : Int32) = I 3 from rfl, decE hr.1 hr.2 (by omega) (by omega)]
  by_cases e : A w 109 p = 3
  · rw [decide_eq_true e, br_tq]
    exact ok_some.mpr ⟨d, FR.rf, e, fun _ _ => rfl⟩
  rw [decide_eq_false e, br_fq, ck_t, lt_e, wa_e]
  rw [show (wa w 109 p 3).1 150 = I eM from I_F' e2, inb_at (k := 145) (n := 4000) rfl (by omega) (by omega) (by decide), ck_t, lt_e, I_tn (by omega) (by omega), Int.toNat_natCast, wa_e]
  rw [show (wa (wa w 109 p 3) 145 eM p).1 150 = I eM from I_F' e2, inb_at (k := 146) (n := 4000) rfl (by omega) (by omega) (by decide), ck_t, lt_e, I_tn (by omega) (by omega), Int.toNat_natCast, wa_e]
  rw [show (wa (wa (wa w 109 p 3) 145 eM p) 146 eM wr).1 150 = I eM from I_F' e2, inb_at (k := 147) (n := 4000) rfl (by omega) (by omega) (by decide), ck_t, lt_e, I_tn (by omega) (by omega), Int.toNat_natCast, wa_e]
  rw [show (wa (wa (wa (wa w 109 p 3) 145 eM p) 146 eM wr) 147 eM o).1 150 = I eM from I_F' e2, inb_at (k := 148) (n := 4000) rfl (by omega) (by omega) (by decide), ck_t, lt_e, I_tn (by omega) (by omega), Int.toNat_natCast, wj_e]
  rw [show (wj (wa (wa (wa (wa w 109 p 3) 145 eM p) 146 eM wr) 147 eM o) 148 eM t).1 150 = I eM from I_F' e2, lt_e, lit1q, I_add, wi_e]
  generalize hz : wi (wj (wa (wa (wa (wa w 109 p 3) 145 eM p) 146 eM wr) 147 eM o) 148 eM t) 150 ((eM : Int) + 1) = z
  have fz : FR [150] [] [109, 145, 146, 147] [148] w z := by rw [← hz]; exact FR.wi (FR.wj (FR.wa (FR.wa (FR.wa (FR.wa FR.rf (by decide)) (by decide)) (by decide)) (by decide)) (by decide)) (by decide)
  have a109 : ∀ i, A z 109 i = if i = p then 3 else A w 109 i := fun i => by
    rw [← hz, A_wi, A_wj, A_ne (by decide), A_ne (by decide), A_ne (by decide), A_eq (by omega) (by omega)]
  have a145 : ∀ i, A z 145 i = if i = eM then (p : Int) else A w 145 i := fun i => by
    rw [← hz, A_wi, A_wj, A_ne (by decide), A_ne (by decide), A_eq (by omega) (by omega), A_ne (by decide)]
  have a146 : ∀ i, A z 146 i = if i = eM then wr else A w 146 i := fun i => by
    rw [← hz, A_wi, A_wj, A_ne (by decide), A_eq (by omega) (by omega), A_ne (by decide), A_ne (by decide)]
  have a147 : ∀ i, A z 147 i = if i = eM then (o : Int) else A w 147 i := fun i => by
    rw [← hz, A_wi, A_wj, A_eq (by omega) (by omega), A_ne (by decide), A_ne (by decide), A_ne (by decide)]
  have j148 : ∀ i, z.2.2.2 148 i = if i = eM then t else w.2.2.2 148 i := fun i => by
    rw [← hz, J_wi, J_wj, if_pos rfl]; rfl
  have f150 : F z 150 = (eM : Int) + 1 := by rw [← hz, F_wi (by omega) (by omega), if_pos rfl]
  have hpz : ∀ x, hp z x = hp w x := fun x => by unfold hp; rw [fz.2.2.2 88 (by decide)]
  have gtp : ∀ x y, GTP Fv P w x y → GTP Fv P z x y := fun x y g => GTP_same g (FR.A fz (by decide)) (hpz x)
  refine ok_some.mpr ⟨⟨⟨by rw [FR.F fz (by decide)]; exact d1, d1'⟩, fun x hx => ?_, ?_, by rw [FR.F fz (by decide)]; exact d4, ?_, fun x hx => ?_⟩, fz, by rw [a109, if_pos rfl], fun x hx => by rw [a109, if_neg hx]⟩
  · refine PRC_same (d2 x hx) (FR.A fz (by decide)) (hpz x) (FR.A fz (by decide)) (FR.A fz (by decide)) (FR.A fz (by decide)) (fun i _ => by rw [fz.2.2.2 91 (by decide)]) (fun i _ => by rw [fz.2.2.2 93 (by decide)]) (fun i _ => by rw [fz.2.2.2 107 (by decide)]) ?_
    rw [FR.F fz (by decide), d4]; omega
  · obtain ⟨n4, ow4, kd4, a, b, c⟩ := d3
    exact ⟨n4, ow4, kd4, by rw [FR.A fz (by decide)]; exact a, b, by rw [hpz]; exact c⟩
  · refine ⟨eF, eM + 1, by rw [FR.F fz (by decide)]; exact e1, by rw [f150]; omega, by omega, ?_, fun i h1 h2 => ?_⟩
    · rw [cE_up (w := w) e (by rw [a109, if_pos rfl]) (fun x hx => by rw [a109, if_neg hx]) PR hp1]; omega
    · rw [a145, a146, a147, j148]
      by_cases ei : i = eM
      · rw [if_pos ei, if_pos ei, if_pos ei, if_pos ei]
        refine ⟨by omega, hw, by omega, ?_⟩
        rw [Int.toNat_natCast]
        rcases ht with ht | ⟨ht, h2', h3⟩
        · exact Or.inl ht
        · refine Or.inr ⟨ht, ?_, gtp _ _ h3⟩
          rcases h2' with h2' | ⟨h2', h4⟩
          · exact Or.inl h2'
          · refine Or.inr ⟨h2', ?_⟩
            rw [a109]
            by_cases e9 : o = p
            · rw [if_pos e9]
            · rw [if_neg e9]; rcases h4 with h4 | h4; exact h4; exact absurd h4 e9
      · rw [if_neg ei, if_neg ei, if_neg ei, if_neg ei]
        obtain ⟨q1, q2, q3, q4⟩ := e5 i h1 (by omega)
        refine ⟨q1, q2, q3, ?_⟩
        rcases q4 with q4 | ⟨q4, q5, q6⟩
        · exact Or.inl q4
        · refine Or.inr ⟨q4, ?_, gtp _ _ q6⟩
          rcases q5 with q5 | ⟨q5, q7⟩
          · exact Or.inl q5
          · refine Or.inr ⟨q5, ?_⟩
            rw [a109]
            split
            · rfl
            · exact q7
  · rw [a109]
    split
    · exact Or.inr (Or.inr (Or.inl rfl))
    · exact d6 x hx
def MQq (Fv : Int64 → Int64 → Prop) (P : Int64 → Prop) (w0 w : MS) (q n : Nat) (ow kd : Nat → Nat) (opM bnM bxM : Nat) : Prop :=
  A w 89 q = ((n : Nat) : Int) ∧ CX w q (hp w q) n ow kd Fv P opM bnM bxM ∧ FR [136, 138, 140] [139] [89, 90, 135, 142] [88, 91, 93, 107, 134, 137, 141] w0 w ∧ F w 140 = -1 ∧ (∀ p, p ≠ q → A w 89 p = A w0 89 p) ∧ (∀ i, ¬ (500 * q ≤ i ∧ i < 500 * q + 500) → w.2.2.2 88 i = w0.2.2.2 88 i) ∧ (∀ i, ¬ (46000 * q ≤ i ∧ i < 46000 * q + 46000) → w.2.2.2 91 i = w0.2.2.2 91 i) ∧ (∀ i, ¬ (2500 * q ≤ i ∧ i < 2500 * q + 2500) → w.2.2.2 93 i = w0.2.2.2 93 i) ∧ (∀ i, ¬ (30 * q ≤ i ∧ i < 30 * q + 30) → w.2.2.2 107 i = w0.2.2.2 107 i)
theorem MQ_dw (m : MQq Fv P w0 w q n ow kd opM bnM bxM) (d : DW Fv P PR w0) (hq : q < PR) (hal : A w0 109 q ≠ 3) : DW Fv P PR w := by
  obtain ⟨m1, m2, m3, m4, m5, m6, m7, m8, m9⟩ := m
  exact DW_q d hq hal ⟨n, ow, kd, opM, bnM, bxM, m1, m2⟩ (FR.mo m3 (fun _ z => z) (fun _ z => z) (by decide) (fun _ z => z)) m4 m5 (fun p _ => FR.A m3 (by decide)) (fun p _ => FR.A m3 (by decide)) (fun p _ => FR.A m3 (by decide)) m6 m7 m8 m9
theorem MQ_heap (m : MQq Fv P w0 w q n ow kd opM bnM bxM) (f : FR [] [] [89, 142] [88, 141] w w2) (h89 : A w2 89 q = ((n2 : Nat) : Int)) (h5 : n2 ≤ 500) (ho : ∀ p, p ≠ q → A w2 89 p = A w 89 p) (h88 : ∀ i, ¬ (500 * q ≤ i ∧ i < 500 * q + 500) → w2.2.2.2 88 i = w.2.2.2 88 i) (g : HP (hp w2 q) n2 ow2 kd2 Fv P) (hg : ∀ t, GT n ow kd P t → GT n2 ow2 kd2 P t) : MQq Fv P w0 w2 q n2 ow2 kd2 opM bnM bxM := by
  obtain ⟨m1, ⟨x1, x2, x3, x4, x5, x6, x7, x8, x9, x10, x11⟩, m3, m4, m5, m6, m7, m8, m9⟩ := m
  have f140 : F w2 140 = -1 := by rw [FR.F f (by decide)]; exact m4
  refine ⟨h89, ⟨rfl, g, h5, x4, by rw [FR.A f (by decide)]; exact x5, by rw [FR.A f (by decide)]; exact x6, by rw [FR.A f (by decide)]; exact x7, fun i hi => by rw [f.2.2.2 91 (by decide)]; exact hg _ (x8 i hi), fun i hi => by rw [f.2.2.2 93 (by decide)]; exact hg _ (x9 i hi), fun i hi => by rw [f.2.2.2 107 (by decide)]; exact hg _ (x10 i hi), fun z => by omega⟩, FR.tr m3 (FR.mo f (by decide) (by decide) (by decide) (by decide)), f140, fun p hp1 => by rw [ho p hp1]; exact m5 p hp1, fun i hi => by rw [h88 i hi]; exact m6 i hi, fun i hi => by rw [f.2.2.2 91 (by decide)]; exact m7 i hi, fun i hi => by rw [f.2.2.2 93 (by decide)]; exact m8 i hi, fun i hi => by rw [f.2.2.2 107 (by decide)]; exact m9 i hi⟩
theorem MQ_cell (m : MQq Fv P w0 w q n ow kd opM bnM bxM) {i : Nat} {t : Int64} (hi : i < n) (hn : i < ow i) : MQq Fv P w0 (wj w 88 (500 * q + i) t) q n ow kd opM bnM bxM := by
  have m' := m
  obtain ⟨m1, ⟨x1, x2, x3, x4, -⟩, -⟩ := m
  refine MQ_heap m' (FR.wj FR.rf (by decide)) m1 x3 (fun _ _ => rfl) (fun j hj => by rw [J_wj, if_pos rfl, if_neg (by omega)]) ?_ (fun _ z => z)
  refine HP_own x2 (Nat.le_refl _) (fun j hj ho => ?_) (fun _ _ _ => rfl) (fun _ _ _ => rfl) (fun j hj e => ⟨hj, e⟩)
  unfold hp
  rw [J_wj, if_pos rfl, if_neg (fun z => by have : j = i := by omega
                                            subst this; omega)]
theorem MQ_hole (m : MQq Fv P w0 w q n ow kd opM bnM bxM) (k : Nat) (hk : n + k ≤ 500) : MQq Fv P w0 (wa w 89 q ((n : Int) + k)) q (n + k) (owH n ow) kd opM bnM bxM := by
  have m' := m
  obtain ⟨m1, ⟨x1, x2, x3, x4, -⟩, -⟩ := m
  refine MQ_heap m' (FR.wa FR.rf (by decide)) (by rw [A_wa (by omega) (by omega), if_pos rfl, if_pos rfl]; omega) hk (fun p hp1 => by rw [A_wa (by omega) (by omega), if_pos rfl, if_neg hp1]) (fun _ _ => rfl) (HP_hole k x2 (fun _ _ => rfl)) (fun t z => GT_hole k z)
end
end
section
section
variable {Fv : Int64 → Int64 → Prop} {P : Int64 → Prop} {w0 w w2 : MS} {PR N q n n2 opM bnM bxM : Nat} {ow kd ow2 kd2 : Nat → Nat}
def SRC (Fv : Int64 → Int64 → Prop) (P : Int64 → Prop) (w : MS) (o q n : Nat) (x : Int64) (s : Nat) : Prop := o < 25 ∧ ∃ nS owS kdS f, nS ≤ 500 ∧ (o = q → nS ≤ n) ∧ HP (hp w o) nS owS kdS Fv P ∧ SZ (hp w o) nS owS kdS Fv P f x s
theorem SRC_st {o s : Nat} {x : Int64} (h : SRC Fv P w o q n x s) (h1 : o ≠ q → ∀ i, i < 500 → hp w2 o i = hp w o i) (h2 : o = q → ∀ i, i < n → hp w2 o i = hp w o i) (hn : n ≤ n2) : SRC Fv P w2 o q n2 x s := by
  obtain ⟨a, nS, owS, kdS, f, b, c, d, e⟩ := h
  have hc : ∀ i, i < nS → hp w2 o i = hp w o i := fun i hi => by
    by_cases z : o = q
    · exact h2 z i (by have := c z; omega)
    · exact h1 z i (by omega)
  exact ⟨a, nS, owS, kdS, f, b, fun z => by have := c z; omega, HP_own d (Nat.le_refl _) (fun i hi _ => hc i hi) (fun _ _ _ => rfl) (fun _ _ _ => rfl) (fun i hi e => ⟨hi, e⟩), SZ_ext (Nat.le_refl _) hc (fun _ _ => rfl) (fun _ _ => rfl) (fun _ _ q => q) (fun _ q => q) e⟩
theorem SRC_cell {o s i : Nat} {x t : Int64} (hq : q < 24) (hi5 : i < 500) (h : SRC Fv P w o q n x s) (hi : n ≤ i) (hn : n ≤ n2) : SRC Fv P (wj w 88 (500 * q + i) t) o q n2 x s :=
  SRC_st h (fun hz j hj => by unfold hp; rw [J_wj, if_pos rfl, if_neg (by omega)]) (fun hz j hj => by unfold hp; rw [J_wj, if_pos rfl, if_neg (by omega)]) hn
theorem SRC_nh {o : Nat} {x : Int64} (ho : o < 25) (h1 : ¬ isH x) (h2 : P x) : SRC Fv P w o q n x 0 :=
  ⟨ho, 0, fun _ => 1, fun _ => 0, 1, by omega, fun _ => Nat.zero_le _, fun t ht g => by
    rcases g with ⟨z, -⟩ | ⟨-, -, z, -⟩
    · exact absurd ht z
    · omega, Or.inl ⟨h1, h2, rfl⟩⟩
theorem cpMQ {o s : Nat} {x : Int64} (m : MQq Fv P w0 w q n ow kd opM bnM bxM) (h : SRC Fv P w o q n x s) (hs : n + s ≤ 500) (hN : 3000 ≤ N) :
    OK (fun w2 r => ∃ ow2 kd2 f, MQq Fv P w0 w2 q (n + s) ow2 kd2 opM bnM bxM ∧ (∀ i, i < n → hp w2 q i = hp w q i) ∧ (∀ z, z < n → ow2 z = ow z) ∧ SZ (hp w2 q) (n + s) ow2 kd2 Fv P f r s) (fm_M_copy N w (I o) x (I q)) := by
  have m' := m
  obtain ⟨m1, ⟨x1, x2, x3, x4, -⟩, -⟩ := m
  obtain ⟨a, nS, owS, kdS, f, b, c, d, e⟩ := h
  refine ok_mono (copy_ok (N := N) a (show q < 25 by omega) b hs c d e m1 hN) (fun w2 r hc => ?_)
  obtain ⟨c1, c2, c3, cc, st, src, oo, c4, c5⟩ := hc
  have cell : ∀ i, i < n → hp w2 q i = hp w q i := fun i hi => by unfold hp; exact c3 _ (by omega)
  obtain ⟨ow2, kd2, g1, g2, g3, g4, g5⟩ := CPI_end d x2 c4 cell
  refine ⟨ow2, kd2, f, MQ_heap m' c1 (by rw [c2, if_pos rfl]) hs (fun p hp1 => by rw [c2, if_neg hp1]) (fun i hi => c3 i (by omega)) g1 g2, cell, g5, g4 f r x s c5 e⟩
def MSG (Fv : Int64 → Int64 → Prop) (P : Int64 → Prop) (PR : Nat) (w0 : MS) (q : Nat) (w : MS) : Prop :=
  DW Fv P PR w ∧ FR [136, 138, 140, 150] [139] [89, 90, 108, 109, 135, 142, 145, 146, 147] [88, 91, 93, 107, 134, 137, 141, 148] w0 w ∧ (∀ p, p ≠ q → A w 109 p = A w0 109 p ∧ A w 108 p = A w0 108 p ∧ A w 89 p = A w0 89 p) ∧ (A w 109 q = A w0 109 q ∨ A w 109 q = 3) ∧ (∀ i, ¬ (500 * q ≤ i ∧ i < 500 * q + 500) → w.2.2.2 88 i = w0.2.2.2 88 i) ∧ (∀ i, ¬ (46000 * q ≤ i ∧ i < 46000 * q + 46000) → w.2.2.2 91 i = w0.2.2.2 91 i) ∧ (∀ i, ¬ (2500 * q ≤ i ∧ i < 2500 * q + 2500) → w.2.2.2 93 i = w0.2.2.2 93 i)
theorem box_ok {m0 : Int64} (m : MQq Fv P w0 w q n ow kd opM bnM bxM) (d : DW Fv P PR w0) (hq : q < PR) (hal : A w0 109 q ≠ 3) (hb : bxM < 30) (g : GT n ow kd P m0) : OK (fun w2 _ => MSG Fv P PR w0 q w2) (fb_M_message_406 N () w (I q) m0) := by
  have dw := MQ_dw m d hq hal
  have m' := m
  obtain ⟨m1, ⟨x1, x2, x3, x4, x5, x6, x7, x8, x9, x10, x11⟩, m3, m4, m5, m6, m7, m8, m9⟩ := m
  unfold fb_M_message_406
  rw [inb_at (k := 108) (n := 24) rfl (by omega) (by omega) (by decide), ck_t, I_tn (x := (q : Int)) (by omega) (by omega), Int.toNat_natCast, I_A' x7.1, show (30 : Int32) = I 30 from rfl, I_mul, I_add, inb_at (k := 107) (n := 720) rfl (by omega) (by omega) (by decide), ck_t, lt_e, I_tn (by omega) (by omega), show ((q : Int) * 30 + (bxM : Int)).toNat = 30 * q + bxM from by omega, wj_e, ck_t, ck_t, lt_e, show (wj w 107 (30 * q + bxM) m0).2.2.1 108 q = I bxM from I_A' x7.1, lit1q, I_add, wa_e]
  generalize hz : wa (wj w 107 (30 * q + bxM) m0) 108 q ((bxM : Int) + 1) = z
  have fz : FR [] [] [108] [107] w z := by rw [← hz]; exact FR.wa (FR.wj FR.rf (by decide)) (by decide)
  have a108 : ∀ i, A z 108 i = if i = q then (bxM : Int) + 1 else A w 108 i := fun i => by rw [← hz, A_eq (by omega) (by omega)]; rfl
  have j107 : ∀ i, z.2.2.2 107 i = if i = 30 * q + bxM then m0 else w.2.2.2 107 i := fun i => by rw [← hz, J_wa, J_wj, if_pos rfl]
  have f140 : F z 140 = -1 := by rw [FR.F fz (by decide)]; exact m4
  have hpz : hp z q = hp w q := by unfold hp; rw [fz.2.2.2 88 (by decide)]
  have alw : A w 109 q ≠ 3 := by rw [FR.A m3 (by decide)]; exact hal
  refine ok_some.mpr ⟨DW_q dw hq alw ⟨n, ow, kd, opM, bnM, bxM + 1, by rw [FR.A fz (by decide)]; exact m1, rfl, by rw [hpz]; exact x2, x3, x4, by rw [FR.A fz (by decide)]; exact x5, by rw [FR.A fz (by decide)]; exact x6, ⟨by rw [a108, if_pos rfl]; omega, by omega⟩, fun i hi => by rw [fz.2.2.2 91 (by decide)]; exact x8 i hi, fun i hi => by rw [fz.2.2.2 93 (by decide)]; exact x9 i hi, fun i hi => ?_, fun z => by omega⟩ (FR.mo fz (by decide) (by decide) (by decide) (by decide)) f140 (fun p _ => FR.A fz (by decide)) (fun p _ => FR.A fz (by decide)) (fun p _ => FR.A fz (by decide)) (fun p hp1 => by rw [a108, if_neg hp1]) (fun i _ => by rw [fz.2.2.2 88 (by decide)]) (fun i _ => by rw [fz.2.2.2 91 (by decide)]) (fun i _ => by rw [fz.2.2.2 93 (by decide)]) (fun i hi => by rw [j107, if_neg (by omega)]), FR.tr (FR.mo m3 (by decide) (by decide) (by decide) (by decide)) (FR.mo fz (by decide) (by decide) (by decide) (by decide)), fun p hp1 => ⟨by rw [FR.A fz (by decide), FR.A m3 (by decide)], by rw [a108, if_neg hp1, FR.A m3 (by decide)], by rw [FR.A fz (by decide)]; exact m5 p hp1⟩, Or.inl (by rw [FR.A fz (by decide), FR.A m3 (by decide)]), fun i hi => by rw [fz.2.2.2 88 (by decide)]; exact m6 i hi, fun i hi => by rw [fz.2.2.2 91 (by decide)]; exact m7 i hi, fun i hi => by rw [fz.2.2.2 93 (by decide)]; exact m8 i hi⟩
  rw [j107]
  by_cases e : i = bxM
  · subst e; rw [if_pos rfl]; exact g
  · rw [if_neg (by omega)]; exact x10 i (by omega)
def OUTB (P : Int64 → Prop) (w : MS) (q n : Nat) (ow : Nat → Nat) (k parts : Nat) : Prop := k + parts + 1 ≤ n ∧ (∀ j, j ≤ parts → k + j < ow (k + j)) ∧ HDP (hp w q k) parts ∧ (∀ j, 1 ≤ j → j < parts → ¬ isH (hp w q (k + j)) ∧ P (hp w q (k + j))) ∧ (parts = 3 ∨ parts = 4)
def CT (P : Int64 → Prop) (w : MS) (q n : Nat) (ow : Nat → Nat) (m0 : Int64) (at' : Int) (L : Nat) : Prop := (at' = -1 ∧ L = 0) ∨ ∃ k parts : Nat, at' = ((k + parts : Nat) : Int) ∧ m0 = mk 5 k ∧ OUTB P w q n ow k parts ∧ L = parts + 1
theorem CT_st {m0 : Int64} {at' : Int} {L : Nat} (c : CT P w q n ow m0 at' L) (h : ∀ i, i < n → hp w2 q i = hp w q i) (ho : ∀ i, i < n → ow2 i = ow i) (hn : n ≤ n2) : CT P w2 q n2 ow2 m0 at' L := by
  rcases c with c | ⟨k, parts, c1, c2, ⟨o1, o2, o3, o4, o5⟩, c3⟩
  · exact Or.inl c
  · refine Or.inr ⟨k, parts, c1, c2, ⟨by omega, fun j hj => by rw [ho _ (by omega)]; exact o2 j hj, by rw [h _ (by omega)]; exact o3, fun j h1 h2 => by rw [h _ (by omega)]; exact o4 j h1 h2, o5⟩, c3⟩
theorem m378_ok {m0 inner : Int64} {at' : Int} {L s f : Nat} (m : MQq Fv P w0 w q n ow kd opM bnM bxM) (d : DW Fv P PR w0) (hq : q < PR) (hal : A w0 109 q ≠ 3) (hb : bxM < 30) (c : CT P w q n ow m0 at' L) (z : SZ (hp w q) n ow kd Fv P f inner s) (hL : L + s ≤ 500) : OK (fun w2 _ => MSG Fv P PR w0 q w2) (fb_M_message_378 N () w (I q) m0 (I at') inner) := by
  have x3 := m.2.1.2.2.1
  have x4 := m.2.1.2.2.2.1
  unfold fb_M_message_378
  rcases c with ⟨c, -⟩ | ⟨k, parts, c1, c2, ⟨o1, o2, o3, o4, o5⟩, c3⟩
  · rw [c, litm1q, decE (by omega) (by omega) (by omega) (by omega), decide_eq_true rfl, br_tq]
    exact box_ok m d hq hal hb (SZ_gt z)
  · rw [c1, litm1q, decE (by omega) (by omega) (by omega) (by omega), decide_eq_false (by omega), br_fq, lit500, I_mul, I_add, inb_at (k := 88) (n := 12500) rfl (by omega) (by omega) (by decide), ck_t, lt_e, I_tn (by omega) (by omega), show ((q : Int) * 500 + ((k + parts : Nat) : Int)).toNat = 500 * q + (k + parts) from by omega, wj_e]
    have un := o2 parts (Nat.le_refl _)
    have mc := MQ_cell (t := inner) m (i := k + parts) (by omega) un
    have cell : ∀ i, hp (wj w 88 (500 * q + (k + parts)) inner) q i = if i = k + parts then inner else hp w q i := fun i => by
      unfold hp
      rw [J_wj, if_pos rfl]
      by_cases e : i = k + parts
      · rw [if_pos (by omega), if_pos e]
      · rw [if_neg (by omega), if_neg e]
    generalize hz : wj w 88 (500 * q + (k + parts)) inner = v at mc cell
    have own : ∀ i, i < n → ow i ≤ i → hp v q i = hp w q i := fun i _ hi => by rw [cell, if_neg (fun e => by subst e; omega)]
    have zv : SZ (hp v q) n ow kd Fv P f inner s := SZ_own (Nat.le_refl _) own (fun _ _ _ => rfl) (fun _ _ _ => rfl) (fun _ _ q => q) (fun _ q => q) z
    have e5 : so (mk 5 (k : Int)) = 5 := so_mk (by omega) (by omega)
    have v5 : va (mk 5 (k : Int)) = k := va_mk (by omega) (by omega)
    have n5 : vn (mk 5 (k : Int)) = k := by unfold vn; rw [v5]; omega
    have ck0 : hp v q k = hp w q k := by rw [cell, if_neg (by omega)]
    have bb : blk (hp v q) (mk 5 (k : Int)) = parts + 1 := by unfold blk; rw [e5, n5, ck0]; simp; unfold vn; rw [o3.1]; omega
    have pp : prt (mk 5 (k : Int)) = 1 := by unfold prt; rw [e5]; rfl
    have lst : hp v q (k + parts) = inner := by rw [cell, if_pos rfl]
    have mid : ∀ j, 1 ≤ j → j < parts → ¬ isH (hp v q (k + j)) ∧ P (hp v q (k + j)) := fun j h1 h2 => by rw [cell, if_neg (by omega)]; exact o4 j h1 h2
    obtain ⟨ow2, kd2, p1, p2, p3, p4, p5, p6, -⟩ := HP_put mc.2.1.2.1 (h2 := hp v q) (m := parts + 1) (k := k) (x := mk 5 (k : Int)) (fun _ _ => rfl) (by omega) (fun j hj => o2 j (by omega)) (Or.inr (Or.inl e5)) (by omega) n5 bb (fun _ => by rw [ck0]; exact ⟨by rw [o3.1]; omega, o3.2⟩) (fun e => by omega) (fun j h1 h2 => by
      rw [pp] at h1
      by_cases e : j = parts
      · rw [e, lst]; exact SZ_gt zv
      · exact Or.inl (mid j h1 (by omega))) (Or.inr (fun f2 c2 hc => by
      rw [pp] at hc ⊢
      have z0 : ∀ j, 1 ≤ j → j < parts → c2 j = 0 := fun j h1 h2 => by
        have := hc j h1 (by omega)
        cases f2 with
        | zero => exact this.elim
        | succ f2 =>
          rcases this with ⟨-, -, y⟩ | ⟨y, -⟩
          · exact y
          · exact absurd y (mid j h1 h2).1
      have zl : c2 parts = s := by
        have := hc parts (by omega) (by omega)
        rw [lst] at this
        exact SZ_fun this zv
      rcases o5 with e | e
      · subst e
        show 3 + 1 + (0 + c2 (1 + 0) + c2 (1 + 1) + c2 (1 + 2)) ≤ 500
        rw [show c2 (1 + 0) = 0 from z0 1 (by omega) (by omega), show c2 (1 + 1) = 0 from z0 2 (by omega) (by omega), show c2 (1 + 2) = s from zl]; omega
      · subst e
        show 4 + 1 + (0 + c2 (1 + 0) + c2 (1 + 1) + c2 (1 + 2) + c2 (1 + 3)) ≤ 500
        rw [show c2 (1 + 0) = 0 from z0 1 (by omega) (by omega), show c2 (1 + 1) = 0 from z0 2 (by omega) (by omega), show c2 (1 + 2) = 0 from z0 3 (by omega) (by omega), show c2 (1 + 3) = s from zl]; omega))
    have m2 : MQq Fv P w0 v q n ow2 kd2 opM bnM bxM := MQ_heap mc FR.rf mc.1 x3 (fun _ _ => rfl) (fun _ _ => rfl) p4 (fun t g => GT_own g (Nat.le_refl _) p1 p2)
    rw [c2]
    exact box_ok m2 d hq hal hb p5
end
end
section
section
variable {Fv : Int64 → Int64 → Prop} {P : Int64 → Prop} {w0 w w2 : MS} {PR N q n n2 opM bnM bxM : Nat} {ow kd ow2 kd2 : Nat → Nat}
theorem hp_wj {w : MS} {q k i : Nat} {t : Int64} : hp (wj w 88 (500 * q + k) t) q i = if i = k then t else hp w q i := by
  unfold hp
  rw [J_wj, if_pos rfl]
  by_cases e : i = k
  · rw [if_pos (by omega), if_pos e]
  · rw [if_neg (by omega), if_neg e]
theorem isK_88 : isK 88 5 = true := by decide
theorem m328_ok {m0 x : Int64} {at' at0 : Int} {L o s : Nat} (m : MQq Fv P w0 w q (n + 3) ow kd opM bnM bxM) (d : DW Fv P PR w0) (hq : q < PR) (hal : A w0 109 q ≠ 3) (hb : bxM < 30) (hPB : PB P PR) (c : CT P w q n ow m0 at' L) (hs : SRC Fv P w o q n x s) (hL : L + (3 + s) ≤ 500) (hn : n + 3 + s ≤ 500) (hun : ∀ j, j < 3 → n + j < ow (n + j)) (hhd : hp w q n = 2) (ha : 0 ≤ at0 ∧ at0 < 22) (hN : 3000 ≤ N) :
    OK (fun w2 _ => MSG Fv P PR w0 q w2) (fb_M_message_328 N () w (I q) (I o) x m0 (I at') (I n) 88 ((((I q) * 500) + (I n)) + 1) 1 (I at0)) := by
  have x4 := m.2.1.2.2.2.1
  unfold fb_M_message_328
  rw [lit1q, term_e, bnd_so, isK_88, ck_t, lit500, I_mul, I_add, I_add, inb_at (k := 88) (n := 12500) rfl (by omega) (by omega) (by decide), ck_t, lt_e, I_tn (by omega) (by omega), show ((q : Int) * 500 + (n : Int) + 1).toNat = 500 * q + (n + 1) from by omega, wj_e]
  have m1 := MQ_cell (t := mk 1 at0) m (i := n + 1) (by omega) (hun 1 (by omega))
  have s1 := SRC_cell (t := mk 1 at0) (i := n + 1) x4 (by omega) hs (by omega) (show n ≤ n + 3 by omega)
  have c1 : CT P (wj w 88 (500 * q + (n + 1)) (mk 1 at0)) q n ow m0 at' L := CT_st c (fun i hi => by rw [hp_wj, if_neg (by omega)]) (fun _ _ => rfl) (Nat.le_refl _)
  have h0 : hp (wj w 88 (500 * q + (n + 1)) (mk 1 at0)) q n = 2 := by rw [hp_wj, if_neg (by omega)]; exact hhd
  have h1 : hp (wj w 88 (500 * q + (n + 1)) (mk 1 at0)) q (n + 1) = mk 1 at0 := by rw [hp_wj, if_pos rfl]
  generalize wj w 88 (500 * q + (n + 1)) (mk 1 at0) = v at *
  refine ok_bnd.mpr (ok_mono (cpMQ m1 s1 hn hN) (fun v2 r hc => ?_))
  obtain ⟨ow2, kd2, f, m2, e2, o2, z2⟩ := hc
  rw [show (2 : Int32) = I 2 from rfl, I_add, inb_at (k := 88) (n := 12500) rfl (by omega) (by omega) (by decide), ck_t, lt_e, I_tn (by omega) (by omega), show ((q : Int) * 500 + (n : Int) + 2).toNat = 500 * q + (n + 2) from by omega, wj_e, show (5 : Int32) = I 5 from rfl, term_e, bnd_so]
  have un2 : n + 2 < ow2 (n + 2) := by rw [o2 _ (by omega)]; exact hun 2 (by omega)
  have m3 := MQ_cell (t := r) m2 (i := n + 2) (by omega) un2
  have k0 : hp (wj v2 88 (500 * q + (n + 2)) r) q n = 2 := by rw [hp_wj, if_neg (by omega), e2 _ (by omega)]; exact h0
  have k1 : hp (wj v2 88 (500 * q + (n + 2)) r) q (n + 1) = mk 1 at0 := by rw [hp_wj, if_neg (by omega), e2 _ (by omega)]; exact h1
  have k2 : hp (wj v2 88 (500 * q + (n + 2)) r) q (n + 2) = r := by rw [hp_wj, if_pos rfl]
  have z3 : SZ (hp (wj v2 88 (500 * q + (n + 2)) r) q) (n + 3 + s) ow2 kd2 Fv P f r s := SZ_own (Nat.le_refl _) (fun i hi ho => by rw [hp_wj, if_neg (fun e => by subst e; omega)]) (fun _ _ _ => rfl) (fun _ _ _ => rfl) (fun _ _ q => q) (fun _ q => q) z2
  have c3 : CT P (wj v2 88 (500 * q + (n + 2)) r) q n ow2 m0 at' L := CT_st c1 (fun i hi => by rw [hp_wj, if_neg (by omega), e2 _ (by omega)]) (fun i hi => o2 i (by omega)) (Nat.le_refl _)
  generalize wj v2 88 (500 * q + (n + 2)) r = y at *
  have e5 : so (mk 5 (n : Int)) = 5 := so_mk (by omega) (by omega)
  have v5 : va (mk 5 (n : Int)) = n := va_mk (by omega) (by omega)
  have n5 : vn (mk 5 (n : Int)) = n := by unfold vn; rw [v5]; omega
  have va2 : va (2 : Int64) = 2 := by decide
  have bb : blk (hp y q) (mk 5 (n : Int)) = 3 := by unfold blk; rw [e5, n5, k0]; simp; unfold vn; rw [va2]; decide
  have pp : prt (mk 5 (n : Int)) = 1 := by unfold prt; rw [e5]; rfl
  have na : ¬ isH (mk 1 at0) := nh_mk (by omega)
  obtain ⟨ow3, kd3, p1, p2, p3, p4, p5, p6, p7⟩ := HP_put m3.2.1.2.1 (h2 := hp y q) (m := 3) (k := n) (x := mk 5 (n : Int)) (fun _ _ => rfl) (by omega) (fun j hj => by rw [o2 _ (by omega)]; exact hun j hj) (Or.inr (Or.inl e5)) (by omega) n5 bb (fun _ => by rw [k0]; exact HDC2) (fun e => by omega) (fun j h1 h2 => by
    rw [pp] at h1
    by_cases e : j = 1
    · rw [e, k1]; exact Or.inl ⟨na, hPB.1 _ ha.1 ha.2⟩
    · have e2 : j = 2 := by omega
      rw [e2, k2]; exact SZ_gt z3) (Or.inl ⟨e5, rfl, by rw [k1]; exact na⟩)
  have m4 : MQq Fv P w0 y q (n + 3 + s) ow3 kd3 opM bnM bxM := MQ_heap m3 FR.rf m3.1 hn (fun _ _ => rfl) (fun _ _ => rfl) p4 (fun t g => GT_own g (Nat.le_refl _) p1 p2)
  have f1 : 1 ≤ f := by cases f with | zero => exact z3.elim | succ f => omega
  have zin := p7 f (fun j => if j = 2 then s else 0) (fun j h1 h2 => by
    rw [pp] at h1
    by_cases e : j = 1
    · rw [e, k1]; simp only [show ¬ (1 = 2) by decide, if_false]
      obtain ⟨f', rfl⟩ : ∃ f', f = f' + 1 := ⟨f - 1, by omega⟩
      exact Or.inl ⟨na, hPB.1 _ ha.1 ha.2, rfl⟩
    · have e2 : j = 2 := by omega
      rw [e2, k2]; simp only [if_true]; exact z3)
  rw [pp] at zin
  have es : 3 + smm (fun j => if j = 2 then s else 0) 1 (3 - 1) = 3 + s := by show 3 + (0 + (if 1 + 0 = 2 then s else 0) + (if 1 + 1 = 2 then s else 0)) = _; simp
  rw [es] at zin
  exact m378_ok m4 d hq hal hb (CT_st c3 (fun _ _ => rfl) (fun i hi => p3 i (by omega)) (by omega)) zin hL
theorem m261_ok {m0 x : Int64} {at' wr : Int} {L o s : Nat} (m : MQq Fv P w0 w q n ow kd opM bnM bxM) (d : DW Fv P PR w0) (hq : q < PR) (hal : A w0 109 q ≠ 3) (hb : bxM < 30) (hPB : PB P PR) (c : CT P w q n ow m0 at' L) (hs : SRC Fv P w o q n x s) (hw : 0 ≤ wr ∧ wr ≤ 2) (hL : L + ((if 0 < wr then 3 else 0) + s) ≤ 500) (hn : n + ((if 0 < wr then 3 else 0) + s) ≤ 500) (hN : 3000 ≤ N) :
    OK (fun w2 _ => MSG Fv P PR w0 q w2) (fb_M_message_261 N () w (I q) (I wr) (I o) x m0 (I at')) := by
  have x4 := m.2.1.2.2.2.1
  have m1 := m.1
  unfold fb_M_message_261
  rw [lit0q, decI (by omega) (by omega) (by omega) (by omega)]
  by_cases e : wr ≤ 0
  · rw [if_neg (by omega)] at hL hn
    rw [decide_eq_true e, br_tq]
    refine ok_bnd.mpr (ok_mono (cpMQ m hs (by omega) hN) (fun v2 r hc => ?_))
    obtain ⟨ow2, kd2, f, m2, e2, o2, z2⟩ := hc
    exact m378_ok m2 d hq hal hb (CT_st c (fun i hi => e2 i hi) (fun i hi => o2 i hi) (by omega)) z2 (by omega)
  · rw [if_pos (by omega)] at hL hn
    rw [decide_eq_false e, br_fq, inb_at (k := 89) (n := 25) rfl (by omega) (by omega) (by decide), ck_t, ck_t, ck_t, lt_e, I_tn (x := (q : Int)) (by omega) (by omega), Int.toNat_natCast, I_A' m1, show (3 : Int32) = I 3 from rfl, I_add, wa_e, lit500, I_mul, I_add, inb_at (k := 88) (n := 12500) rfl (by omega) (by omega) (by decide), ck_t, lt_e, I_tn (by omega) (by omega), show ((q : Int) * 500 + (n : Int)).toNat = 500 * q + n from by omega, wj_e, lit1q, decE (by omega) (by omega) (by omega) (by omega)]
    have mh := MQ_hole m 3 (by omega)
    have mc := MQ_cell (t := 2) mh (i := n) (by omega) (by unfold owH; rw [if_pos (by omega)]; omega)
    have s1 : SRC Fv P (wa w 89 q ((n : Int) + 3)) o q n x s := hs
    have s2 := SRC_cell (t := 2) (i := n) x4 (by omega) s1 (Nat.le_refl _) (Nat.le_refl _)
    have cc : CT P (wj (wa w 89 q ((n : Int) + 3)) 88 (500 * q + n) 2) q n (owH n ow) m0 at' L := CT_st c (fun i hi => by rw [hp_wj, if_neg (by omega)]; rfl) (fun i hi => if_neg (by omega)) (Nat.le_refl _)
    have hd : hp (wj (wa w 89 q ((n : Int) + 3)) 88 (500 * q + n) 2) q n = 2 := by rw [hp_wj, if_pos rfl]
    have un : ∀ j, j < 3 → n + j < owH n ow (n + j) := fun j hj => by unfold owH; rw [if_pos (by omega)]; omega
    have arg : I ((q : Int) * 500 + (n : Int)) + I 1 = (((I q) * 500) + (I n)) + 1 := by rw [lit500, lit1q, I_mul, I_add, I_add, I_add]
    rw [arg, ← lit1q]
    by_cases e1 : wr = 1
    · rw [decide_eq_true e1, br_tq]
      exact m328_ok (at0 := 7) mc d hq hal hb hPB cc s2 hL (by omega) un hd (by omega) hN
    · rw [decide_eq_false e1, br_fq]
      exact m328_ok (at0 := 19) mc d hq hal hb hPB cc s2 hL (by omega) un hd (by omega) hN
theorem m222_ok {x : Int64} {wr : Int} {o s p k parts : Nat} (m : MQq Fv P w0 w q n ow kd opM bnM bxM) (d : DW Fv P PR w0) (hq : q < PR) (hal : A w0 109 q ≠ 3) (hb : bxM < 30) (hPB : PB P PR) (hp1 : p < PR) (hk : k + parts + 1 = n) (hun : ∀ j, j ≤ parts → k + j < ow (k + j)) (hhd : HDP (hp w q k) parts) (hmid : ∀ j, 1 ≤ j → j + 1 < parts → ¬ isH (hp w q (k + j)) ∧ P (hp w q (k + j))) (hpt : parts = 3 ∨ parts = 4) (hs : SRC Fv P w o q k x s) (hw : 0 ≤ wr ∧ wr ≤ 2) (hn : n + ((if 0 < wr then 3 else 0) + s) ≤ 500) (hN : 3000 ≤ N) :
    OK (fun w2 _ => MSG Fv P PR w0 q w2) (fb_M_message_222 N () w (I q) (I p) (I wr) (I o) x (I k) (I parts)) := by
  have x4 := m.2.1.2.2.2.1
  have pr := d.1.2
  unfold fb_M_message_222
  rw [show (4 : Int32) = I 4 from rfl, term_e, bnd_so, lit500, I_mul, I_add, I_add, lit1q, I_sub, inb_at (k := 88) (n := 12500) rfl (by omega) (by omega) (by decide), ck_t, lt_e, I_tn (by omega) (by omega), show ((q : Int) * 500 + (k : Int) + (parts : Int) - 1).toNat = 500 * q + (k + (parts - 1)) from by omega, wj_e, show (5 : Int32) = I 5 from rfl, term_e, bnd_so, I_add]
  have mc := MQ_cell (t := mk 4 p) m (i := k + (parts - 1)) (by omega) (hun _ (by omega))
  have s1 := SRC_cell (t := mk 4 p) (i := k + (parts - 1)) (n2 := n) x4 (by omega) hs (by omega) (by omega)
  have cc : CT P (wj w 88 (500 * q + (k + (parts - 1))) (mk 4 p)) q n ow (mk 5 k) ((k : Int) + (parts : Int)) (parts + 1) := by
    refine Or.inr ⟨k, parts, by omega, rfl, ⟨by omega, hun, by rw [hp_wj, if_neg (by omega)]; exact hhd, fun j h1 h2 => ?_, hpt⟩, rfl⟩
    rw [hp_wj]
    by_cases e : j = parts - 1
    · rw [if_pos (by omega)]; exact ⟨nh_mk (by omega), hPB.2.1 p hp1⟩
    · rw [if_neg (by omega)]; exact hmid j h1 (by omega)
  exact m261_ok mc d hq hal hb hPB cc s1 hw (by omega) hn hN
end
section
variable {Fv : Int64 → Int64 → Prop} {P : Int64 → Prop} {w0 w w2 : MS} {PR N q n n2 opM bnM bxM : Nat} {ow kd ow2 kd2 : Nat → Nat}
theorem hdp_nat {k : Nat} (h : k < 100) : HDP ((I (k : Int)).toInt64) k := by
  have e : (I (k : Int)).toInt = k := I_ti (by omega) (by omega)
  have e2 : va ((I (k : Int)).toInt64) = k := by unfold va; rw [Int32.toInt32_toInt64]; exact e
  exact ⟨e2, by rw [e2, Int32.toInt_toInt64]; exact e⟩
theorem va_nat {k : Nat} (h : k < 100) : va ((I (k : Int)).toInt64) = k := by
  unfold va
  rw [Int32.toInt32_toInt64, I_ti (by omega) (by omega)]
theorem m136_ok {x : Int64} {r wr : Int} {o s p parts sort : Nat} (m : MQq Fv P w0 w q n ow kd opM bnM bxM) (d : DW Fv P PR w0) (hq : q < PR) (hal : A w0 109 q ≠ 3) (hb : bxM < 30) (hPB : PB P PR) (hp1 : p < PR) (hr : -2147483648 ≤ r ∧ r < 2147483648) (hpt : (sort = 0 ∧ parts = 3) ∨ (sort = 1 ∧ parts = 4)) (hs : SRC Fv P w o q n x s) (hw : 0 ≤ wr ∧ wr ≤ 2) (hn : n + (parts + 1) + ((if 0 < wr then 3 else 0) + s) ≤ 500) (hN : 3000 ≤ N) :
    OK (fun w2 _ => MSG Fv P PR w0 q w2) (fb_M_message_136 N () w (I q) (I sort) (I r) (I p) (I wr) (I o) x (I n) (I parts)) := by
  have x4 := m.2.1.2.2.2.1
  have m1 := m.1
  have pr := d.1.2
  unfold fb_M_message_136
  rw [inb_at (k := 89) (n := 25) rfl (by omega) (by omega) (by decide), ck_t, ck_t, lt_e, I_tn (x := (q : Int)) (by omega) (by omega), Int.toNat_natCast, I_A' m1, lit1q, I_add, I_add, wa_e, lit500, I_mul, I_add, inb_at (k := 88) (n := 12500) rfl (by omega) (by omega) (by decide), ck_t, lt_e, I_tn (by omega) (by omega), show ((q : Int) * 500 + (n : Int)).toNat = 500 * q + n from by omega, wj_e, lit0q, decE (by omega) (by omega) (by omega) (by omega)]
  have mh := MQ_hole m (parts + 1) (by omega)
  rw [show (n : Int) + ((parts + 1 : Nat) : Int) = (n : Int) + ((parts : Int) + 1) from by omega] at mh
  have mc := MQ_cell (t := (I (parts : Int)).toInt64) mh (i := n) (by omega) (by unfold owH; rw [if_pos (by omega)]; omega)
  have s1 : SRC Fv P (wa w 89 q ((n : Int) + ((parts : Int) + 1))) o q n x s := hs
  have s2 := SRC_cell (t := (I (parts : Int)).toInt64) (i := n) x4 (by omega) s1 (Nat.le_refl _) (Nat.le_refl _)
  have hd : HDP (hp (wj (wa w 89 q ((n : Int) + ((parts : Int) + 1))) 88 (500 * q + n) ((I (parts : Int)).toInt64)) q n) parts := by rw [hp_wj, if_pos rfl]; exact hdp_nat (by omega)
  generalize wj (wa w 89 q ((n : Int) + ((parts : Int) + 1))) 88 (500 * q + n) ((I (parts : Int)).toInt64) = v at *
  have un : ∀ j, n + j < owH n ow (n + j) := fun j => by unfold owH; rw [if_pos (by omega)]; omega
  have cont : ∀ a : Int, 0 ≤ a → a < 22 → OK (fun w2 _ => MSG Fv P PR w0 q w2) (fb_M_message_193 N () v (I q) (I sort) (I r) (I p) (I wr) (I o) x (I n) (I parts) 88 (I ((q : Int) * 500 + (n : Int)) + I 1) (I 1) (I a)) := by
    intro a a1 a2
    unfold fb_M_message_193
    rw [term_e, bnd_so, isK_88, ck_t, I_add, inb_at (k := 88) (n := 12500) rfl (by omega) (by omega) (by decide), ck_t, lt_e, I_tn (by omega) (by omega), show ((q : Int) * 500 + (n : Int) + 1).toNat = 500 * q + (n + 1) from by omega, wj_e]
    have md := MQ_cell (t := mk 1 a) mc (i := n + 1) (by omega) (un 1)
    have s3 := SRC_cell (t := mk 1 a) (i := n + 1) (n2 := n) x4 (by omega) s2 (by omega) (Nat.le_refl _)
    have hd2 : HDP (hp (wj v 88 (500 * q + (n + 1)) (mk 1 a)) q n) parts := by rw [hp_wj, if_neg (by omega)]; exact hd
    have h1 : hp (wj v 88 (500 * q + (n + 1)) (mk 1 a)) q (n + 1) = mk 1 a := by rw [hp_wj, if_pos rfl]
    generalize wj v 88 (500 * q + (n + 1)) (mk 1 a) = y at *
    rw [lit1q, decE (by omega) (by omega) (by omega) (by omega)]
    rcases hpt with ⟨e1, e2⟩ | ⟨e1, e2⟩
    · subst e1; subst e2
      rw [decide_eq_false (by omega), br_fq]
      exact m222_ok (k := n) (parts := 3) md d hq hal hb hPB hp1 (by omega) (fun j hj => un j) hd2 (fun j h1' h2 => by
        have : j = 1 := by omega
        rw [this, h1]; exact ⟨nh_mk (by omega), hPB.1 a a1 a2⟩) (Or.inl rfl) s3 hw (by omega) hN
    · subst e1; subst e2
      rw [decide_eq_true (by omega), br_tq, show (2 : Int32) = I 2 from rfl, term_e, bnd_so, lit500, I_mul, I_add, I_add, inb_at (k := 88) (n := 12500) rfl (by omega) (by omega) (by decide), ck_t, lt_e, I_tn (by omega) (by omega), show ((q : Int) * 500 + (n : Int) + 2).toNat = 500 * q + (n + 2) from by omega, wj_e]
      have me := MQ_cell (t := mk 2 r) md (i := n + 2) (by omega) (un 2)
      have s4 := SRC_cell (t := mk 2 r) (i := n + 2) (n2 := n) x4 (by omega) s3 (by omega) (Nat.le_refl _)
      exact m222_ok (k := n) (parts := 4) me d hq hal hb hPB hp1 (by omega) (fun j hj => un j) (by rw [hp_wj, if_neg (by omega)]; exact hd2) (fun j h1' h2 => by
        rw [hp_wj]
        by_cases e : j = 2
        · rw [if_pos (by omega)]; exact ⟨nh_mk (by omega), hPB.2.2.1 r hr.1 hr.2⟩
        · have : j = 1 := by omega
          rw [if_neg (by omega), this, h1]; exact ⟨nh_mk (by omega), hPB.1 a a1 a2⟩) (Or.inr rfl) s4 hw (by omega) hN
  refine ok_br.mpr ⟨fun _ => cont 8 (by omega) (by omega), fun _ => cont 9 (by omega) (by omega)⟩
def TM (Fv : Int64 → Int64 → Prop) (P : Int64 → Prop) (w : MS) (q o : Nat) (t : Int64) : Prop := (o < 25 ∧ ¬ isH t ∧ P t) ∨ (o < 25 ∧ o ≠ q ∧ GTP Fv P w o t) ∨ (o = q ∧ ∃ n ow kd opM bnM bxM, A w 89 q = ((n : Nat) : Int) ∧ CX w q (hp w q) n ow kd Fv P opM bnM bxM ∧ GT n ow kd P t)
end
end
section
section
variable {Fv : Int64 → Int64 → Prop} {P : Int64 → Prop} {w0 : MS} {PR N q : Nat}
theorem HP_none {h : Nat → Int64} : HP h 0 (fun _ => 1) (fun _ => 0) Fv P := fun t ht g => by
  rcases g with ⟨z, -⟩ | ⟨-, -, z, -⟩
  · exact absurd ht z
  · omega
theorem RTS_out {u w : MS} {fd : Int64 → Int64} {R : Int64 → Prop} {K b M S : Nat} (r : RTS u w fd R K b M) (hM : M ≤ S) {i : Nat} (hi : ¬ (b ≤ i ∧ i < b + S)) : w.2.2.2 K i = u.2.2.2 K i := (r i).2 (by omega)
theorem m50_ok {o sort p : Nat} {t : Int64} {r wr : Int} (d : DW Fv P PR w0) (hq : q < PR) (hal : A w0 109 q ≠ 3) (hbx : A w0 108 q ≠ 30) (hPB : PB P PR) (hsort : sort ≤ 2) (hp1 : sort < 2 → p < PR) (hr : -2147483648 ≤ r ∧ r < 2147483648) (hpr : -2147483648 ≤ (p : Int) ∧ (p : Int) < 2147483648) (hw : 0 ≤ wr ∧ wr ≤ 2) (ht : TM Fv P w0 q o t) (hN : 60000 ≤ N) :
    OK (fun w2 _ => MSG Fv P PR w0 q w2) (fb_M_message_50 N () w0 (I q) (I sort) (I r) (I p) (I wr) (I o) t (I (if sort = 0 then 4 else if sort = 1 then 5 else 0)) (I (if 0 < wr then 3 else 0))) := by
  have pr := d.1.2
  obtain ⟨n, ow, kd, opM, bnM, bxM, hn, cx⟩ : PRC Fv P w0 q := d.2.1 q hq
  obtain ⟨ho, nS, owS, kdS, f, s, hS5, hS, zS, n', ow', kd', opM', bnM', bxM', hn', cx', hand⟩ : o < 25 ∧ ∃ nS owS kdS f s, nS ≤ 500 ∧ HP (hp w0 o) nS owS kdS Fv P ∧ SZ (hp w0 o) nS owS kdS Fv P f t s ∧ ∃ n ow kd opM bnM bxM, A w0 89 q = ((n : Nat) : Int) ∧ CX w0 q (hp w0 q) n ow kd Fv P opM bnM bxM ∧ (o = q → GT n ow kd P t ∧ (isH t → nS = n ∧ owS = ow ∧ kdS = kd)) := by
    rcases ht with ⟨h1, h2, h3⟩ | ⟨h1, h2, a, b, c, h4, h5, h6, h7⟩ | ⟨h1, n, ow, kd, opM, bnM, bxM, h2, h3, h4⟩
    · exact ⟨h1, 0, _, _, 1, 0, by omega, HP_none, Or.inl ⟨h2, h3, rfl⟩, n, ow, kd, opM, bnM, bxM, hn, cx, fun _ => ⟨Or.inl ⟨h2, h3⟩, fun z => absurd z h2⟩⟩
    · obtain ⟨f, s, z⟩ := HP_sz h6 h7
      exact ⟨h1, a, b, c, f, s, h5, h6, z, n, ow, kd, opM, bnM, bxM, hn, cx, fun z => absurd z h2⟩
    · subst h1
      obtain ⟨f, s, z⟩ := HP_sz h3.2.1 h4
      exact ⟨by omega, n, ow, kd, f, s, h3.2.2.1, h3.2.1, z, n, ow, kd, opM, bnM, bxM, h2, h3, fun _ => ⟨h4, fun _ => ⟨rfl, rfl, rfl⟩⟩⟩
  clear hn cx
  have hs1 := SZ_1000 hS hS5 zS
  unfold fb_M_message_50
  refine ok_bnd.mpr (ok_mono (copySize_ok hS hS5 ho zS (by omega)) (fun w1 r1 h1 => ?_))
  obtain ⟨f1, e1⟩ := h1
  subst e1
  generalize hcs : (if s ≤ 500 then s else 501 : Nat) = cs
  have hcs2 : cs ≤ 501 := by rw [← hcs]; split <;> omega
  unfold fm_M_hand fb_M_hand_0
  rw [show lt (upI w1 140 (I (o : Int))) (fun w1 => lt (upL w1 139 t) (fun w2 => some (w2, ()))) = some (wl (wi w1 140 o) 139 t, ()) from rfl, bnd_so]
  generalize hbase : ((if sort = 0 then 4 else if sort = 1 then 5 else 0 : Int) + (if 0 < wr then 3 else 0)) = ba
  have hba : 0 ≤ ba ∧ ba ≤ 8 := by
    rw [← hbase]
    constructor <;> split <;> split <;> (try split) <;> omega
  rw [I_add, hbase, I_add, show ba + (cs : Int) = ((ba.toNat + cs : Nat) : Int) from by omega]
  obtain ⟨x1, x2, x3, x4, x5, x6, x7, x8, x9, x10, x11⟩ := id cx'
  have f2 : FR [140] [139] [] [141] w0 (wl (wi w1 140 o) 139 t) := FR.wl (FR.wi (FR.mo f1 (by decide) (by decide) (by decide) (by decide)) (by decide)) (by decide)
  have e140 : F (wl (wi w1 140 o) 139 t) 140 = o := by rw [F_wl, F_wi (by omega) (by omega), if_pos rfl]
  have e139 : (wl (wi w1 140 o) 139 t).2.1 139 = t := by rw [L_wl, if_pos rfl]
  generalize wl (wi w1 140 o) 139 t = w2 at f2 e140 e139
  have hp2 : ∀ x, hp w2 x = hp w0 x := fun x => by unfold hp; rw [f2.2.2.2 88 (by decide)]
  have cx2 : CX w2 q (hp w2 q) n' ow' kd' Fv P opM' bnM' bxM' := ⟨rfl, by rw [hp2]; exact x2, x3, x4, by rw [FR.A f2 (by decide)]; exact x5, by rw [FR.A f2 (by decide)]; exact x6, by rw [FR.A f2 (by decide)]; exact x7, fun i hi => by rw [f2.2.2.2 91 (by decide)]; exact x8 i hi, fun i hi => by rw [f2.2.2.2 93 (by decide)]; exact x9 i hi, fun i hi => by rw [f2.2.2.2 107 (by decide)]; exact x10 i hi, fun z => by rw [e139]; exact (hand (by omega)).1⟩
  refine ok_bnd.mpr (ok_mono (wants_ok (N := N) cx2 (by rw [FR.A f2 (by decide)]; exact hn') (k := ba.toNat + cs) (by omega) hN) (fun w3 r3 h3 => ?_))
  obtain ⟨n3, ow3, kd3, fd, R, hw3, hr3⟩ := h3
  obtain ⟨t1, t2, t3, t4, t5, t6, t7, t8, t9, t10, t11, t12⟩ := hw3
  obtain ⟨y1, y2, y3, y4, y5, y6, y7, y8, y9, y10, y11⟩ := id t3
  have none' : fm_M_handNone N w3 = some (wl (wi w3 140 (-1)) 139 (mk 6 0), ()) := rfl
  have f4 : FR [136, 138, 140] [139] [89, 90, 135, 142] [88, 91, 93, 107, 134, 137, 141] w0 (wl (wi w3 140 (-1)) 139 (mk 6 0)) := FR.wl (FR.wi (FR.tr (FR.mo f2 (by decide) (by decide) (by decide) (by decide)) (FR.mo t6 (by decide) (by decide) (by decide) (by decide))) (by decide)) (by decide)
  have h140 : F (wl (wi w3 140 (-1)) 139 (mk 6 0)) 140 = -1 := by rw [F_wl, F_wi (by omega) (by omega), if_pos rfl]
  have mq : MQq Fv P w0 (wl (wi w3 140 (-1)) 139 (mk 6 0)) q n3 ow3 kd3 opM' bnM' bxM' := by
    refine ⟨by have := t5 q; rw [if_pos rfl] at this; exact this, ⟨rfl, y2, y3, y4, y5, y6, y7, y8, y9, y10, fun z => by omega⟩, f4, h140, fun p hp3 => ?_, fun i hi => ?_, fun i hi => ?_, fun i hi => ?_, fun i hi => ?_⟩
    · show A w3 89 p = _
      rw [t5, if_neg hp3, FR.A f2 (by decide)]
    · show w3.2.2.2 88 i = _
      rw [t7 i hi, f2.2.2.2 88 (by decide)]
    · show w3.2.2.2 91 i = _
      rw [RTS_out t8 x5.2 hi, f2.2.2.2 91 (by decide)]
    · show w3.2.2.2 93 i = _
      rw [RTS_out t9 x6.2 hi, f2.2.2.2 93 (by decide)]
    · show w3.2.2.2 107 i = _
      rw [RTS_out t10 x7.2 hi, f2.2.2.2 107 (by decide)]
  rcases hr3 with ⟨er, hroom⟩ | ⟨er, hroom⟩
  · rw [er, lit0q, decE (by omega) (by omega) (by omega) (by omega), decide_eq_false (by omega), br_fq, none', bnd_so]
    have hcs3 : cs = s := by
      rw [← hcs]
      by_cases e : s ≤ 500
      · rw [if_pos e]
      · rw [if_neg e] at hcs; omega
    generalize hx : w3.2.1 139 = x
    have src : SRC Fv P (wl (wi w3 140 (-1)) 139 (mk 6 0)) o q n3 x s := by
      by_cases e : o = q
      · have a1 := t11 (by rw [e140, e])
        rw [e139, hx] at a1
        by_cases hh : isH t
        · obtain ⟨g1, g2⟩ := hand e
          obtain ⟨g3, g4, g5⟩ := g2 hh
          subst g3; subst g4; subst g5
          have sz : SZ (hp w2 q) nS owS kdS Fv P f t s := by rw [hp2, ← e]; exact zS
          have := HOM_sz t1 t2 cx2.2.1 sz a1.2
          rw [← a1.1] at this
          refine ⟨ho, n3, ow3, kd3, f, y3, fun _ => Nat.le_refl _, ?_, ?_⟩
          · rw [e]; exact y2
          · rw [e]; exact this
        · rw [t1.1 t hh] at a1
          have s0 : s = 0 ∧ P t := by
            cases f with
            | zero => exact zS.elim
            | succ f =>
              rcases zS with ⟨-, z, z2⟩ | ⟨z, -⟩
              · exact ⟨z2, z⟩
              · exact absurd z hh
          rw [a1.1, s0.1]
          exact SRC_nh ho hh s0.2
      · have a1 := t12 (by rw [e140]; omega)
        rw [e139, hx] at a1
        rw [a1]
        refine ⟨ho, nS, owS, kdS, f, hS5, fun z => absurd z e, ?_, ?_⟩
        · refine HP_own hS (Nat.le_refl _) (fun i hi _ => ?_) (fun _ _ _ => rfl) (fun _ _ _ => rfl) (fun i hi e => ⟨hi, e⟩)
          show w3.2.2.2 88 _ = w0.2.2.2 88 _
          rw [t7 _ (by omega), f2.2.2.2 88 (by decide)]
        · refine SZ_ext (Nat.le_refl _) (fun i hi => ?_) (fun _ _ => rfl) (fun _ _ => rfl) (fun _ _ q => q) (fun _ q => q) zS
          show w3.2.2.2 88 _ = w0.2.2.2 88 _
          rw [t7 _ (by omega), f2.2.2.2 88 (by decide)]
    have hbx3 : bxM' < 30 := by
      have := x7.1
      have := x7.2
      rcases Nat.lt_or_ge bxM' 30 with z | z
      · exact z
      · exact absurd (by omega : A w0 108 q = 30) hbx
    have e89 : A (wl (wi w3 140 (-1)) 139 (mk 6 0)) 89 q = n3 := mq.1
    generalize wl (wi w3 140 (-1)) 139 (mk 6 0) = v at *
    rw [show (2 : Int32) = I 2 from rfl, decI (by omega) (by omega) (by omega) (by omega)]
    have hif : ba.toNat = (if sort = 0 then 4 else if sort = 1 then 5 else 0) + (if 0 < wr then 3 else 0) := by
      rw [← hbase]
      split <;> split <;> (try split) <;> omega
    by_cases e2 : 2 ≤ sort
    · rw [decide_eq_true (by omega), br_tq, litm1q]
      rw [if_neg (by omega), if_neg (by omega)] at hif
      exact m261_ok mq d hq hal hbx3 hPB (Or.inl ⟨rfl, rfl⟩) src hw (by omega) (by omega) (by omega)
    · rw [decide_eq_false (by omega), br_fq, inb_at (k := 89) (n := 25) rfl (by omega) (by omega) (by decide), ck_t, lt_e, I_tn (by omega) (by omega), Int.toNat_natCast, I_A' e89, decE (by omega) (by omega) (by omega) (by omega)]
      by_cases e0 : sort = 0
      · subst e0
        rw [if_pos rfl] at hif
        rw [decide_eq_true (by omega), br_tq]
        exact m136_ok (parts := 3) (sort := 0) mq d hq hal hbx3 hPB (hp1 (by omega)) hr (Or.inl ⟨rfl, rfl⟩) src hw (by omega) (by omega)
      · have e1 : sort = 1 := by omega
        subst e1
        rw [if_neg (by omega), if_pos rfl] at hif
        rw [decide_eq_false (by omega), br_fq]
        exact m136_ok (parts := 4) (sort := 1) mq d hq hal hbx3 hPB (hp1 (by omega)) hr (Or.inr ⟨rfl, rfl⟩) src hw (by omega) (by omega)
  · rw [er, lit0q, decE (by omega) (by omega) (by omega) (by omega), decide_eq_true rfl, br_tq, none', bnd_so, lit1q, show (20 : Int32) = I 20 from rfl, term_e, bnd_so]
    have dw := MQ_dw mq d hq hal
    obtain ⟨-, -, m3, m4, m5, m6, m7, m8, m9⟩ := mq
    generalize wl (wi w3 140 (-1)) 139 (mk 6 0) = v at *
    refine ok_bnd.mpr (ok_mono (willEnd_ok (wr := 0) dw hq (by omega) (show q ≤ 24 by omega) (Or.inl ⟨nh_mk (by omega), hPB.1 20 (by omega) (by omega)⟩)) (fun v2 _ hv => ok_some.mpr ?_))
    obtain ⟨a, b, c, e⟩ := hv
    refine ⟨a, FR.tr (FR.mo m3 (by decide) (by decide) (by decide) (by decide)) (FR.mo b (by decide) (by decide) (by decide) (by decide)), fun p hp3 => ⟨by rw [e p hp3, FR.A m3 (by decide)], by rw [FR.A b (by decide), FR.A m3 (by decide)], by rw [FR.A b (by decide)]; exact m5 p hp3⟩, Or.inr c, fun i hi => by rw [b.2.2.2 88 (by decide)]; exact m6 i hi, fun i hi => by rw [b.2.2.2 91 (by decide)]; exact m7 i hi, fun i hi => by rw [b.2.2.2 93 (by decide)]; exact m8 i hi⟩
theorem MSG_id (d : DW Fv P PR w0) : MSG Fv P PR w0 q w0 := ⟨d, FR.rf, fun _ _ => ⟨rfl, rfl, rfl⟩, Or.inl rfl, fun _ _ => rfl, fun _ _ => rfl, fun _ _ => rfl⟩
theorem message_ok {o sort p : Nat} {t : Int64} {r wr : Int} (d : DW Fv P PR w0) (hq : q < PR) (hPB : PB P PR) (hsort : sort ≤ 2) (hp1 : sort < 2 → p < PR) (hr : -2147483648 ≤ r ∧ r < 2147483648) (hpr : (p : Int) < 2147483648) (hw : 0 ≤ wr ∧ wr ≤ 2) (ht : A w0 109 q ≠ 3 → TM Fv P w0 q o t) (hN : 60000 ≤ N) :
    OK (fun w2 _ => MSG Fv P PR w0 q w2) (fm_M_message N w0 (I q) (I sort) (I r) (I p) (I wr) (I o) t) := by
  have pr := d.1.2
  unfold fm_M_message fb_M_message_0 fb_M_message_21
  have h9 := A_r w0 109 q
  have h8 := A_r w0 108 q
  rw [inb_at (k := 109) (n := 24) rfl (by omega) (by omega) (by decide), ck_t, I_tn (by omega) (by omega), Int.toNat_natCast, I_A (k := 109), show (3 : Int32) = I 3 from rfl, decE h9.1 h9.2 (by omega) (by omega)]
  by_cases e : A w0 109 q = 3
  · rw [decide_eq_true e, br_tq]; exact ok_some.mpr (MSG_id d)
  rw [decide_eq_false e, br_fq, inb_at (k := 108) (n := 24) rfl (by omega) (by omega) (by decide), ck_t, I_A (k := 108), show (30 : Int32) = I 30 from rfl, decE h8.1 h8.2 (by omega) (by omega)]
  by_cases e8 : A w0 108 q = 30
  · rw [decide_eq_true e8, br_tq]; exact ok_some.mpr (MSG_id d)
  rw [decide_eq_false e8, br_fq, lit0q, lit1q, decE (by omega) (by omega) (by omega) (by omega), decE (by omega) (by omega) (by omega) (by omega)]
  have go : ∀ b : Int, b = (if sort = 0 then 4 else if sort = 1 then 5 else 0) → OK (fun w2 _ => MSG Fv P PR w0 q w2) (fb_M_message_40 N () w0 (I q) (I sort) (I r) (I p) (I wr) (I o) t (I b)) := by
    intro b hb
    subst hb
    unfold fb_M_message_40
    rw [lit0q, decI (by omega) (by omega) (by omega) (by omega)]
    have := m50_ok (N := N) (r := r) (wr := wr) (p := p) d hq e e8 hPB hsort hp1 hr ⟨by omega, hpr⟩ hw (ht e) hN
    by_cases ew : wr ≤ 0
    · rw [decide_eq_true ew, br_tq]
      rw [show (if 0 < wr then 3 else 0 : Int) = 0 from if_neg (by omega)] at this
      exact this
    · rw [decide_eq_false ew, br_fq]
      rw [show (if 0 < wr then 3 else 0 : Int) = 3 from if_pos (by omega)] at this
      exact this
  by_cases e0 : sort = 0
  · rw [decide_eq_true (by omega), br_tq]; exact go 4 (by rw [if_pos e0])
  rw [decide_eq_false (by omega), br_fq]
  by_cases e1 : sort = 1
  · rw [decide_eq_true (by omega), br_tq]; exact go 5 (by rw [if_neg e0, if_pos e1])
  · rw [decide_eq_false (by omega), br_fq]; exact go 0 (by rw [if_neg e0, if_neg e1])
end
end
section
theorem pig : ∀ (N m : Nat) (f : Nat → Nat), (∀ i, i < m → f i < N) → (∀ i j, i < m → j < m → f i = f j → i = j) → m ≤ N
  | 0, m, f, h1, _ => by
    cases m with
    | zero => exact Nat.le_refl _
    | succ m => exact absurd (h1 0 (by omega)) (Nat.not_lt_zero _)
  | N + 1, m, f, h1, h2 => by
    by_cases e : ∃ i, i < m ∧ f i = N
    · obtain ⟨i, hi, ei⟩ := e
      have := pig N (m - 1) (fun k => f (if k < i then k else k + 1)) (fun k hk => by
        have a := h1 (if k < i then k else k + 1) (by split <;> omega)
        have b : f (if k < i then k else k + 1) ≠ N := fun z => by
          have := h2 _ _ (by split <;> omega) hi (z.trans ei.symm)
          split at this <;> omega
        omega) (fun a b ha hb z => by
        have := h2 _ _ (by split <;> omega) (by split <;> omega) z
        split at this <;> split at this <;> omega)
      omega
    · have := pig N m f (fun k hk => by
        have a := h1 k hk
        have b : f k ≠ N := fun z => e ⟨k, hk, z⟩
        omega) h2
      omega
def inL (w : MS) (p q : Nat) : Prop := ∃ k : Nat, (k : Int) < A w 117 p ∧ A w 116 (24 * p + k) = q
def LKR (w : MS) (PR p : Nat) : Prop := 0 ≤ A w 117 p ∧ A w 117 p ≤ 24 ∧ (∀ k : Nat, (k : Int) < A w 117 p → 0 ≤ A w 116 (24 * p + k) ∧ A w 116 (24 * p + k) < PR ∧ A w 116 (24 * p + k) ≠ p) ∧ (∀ k j : Nat, (k : Int) < A w 117 p → (j : Int) < A w 117 p → A w 116 (24 * p + k) = A w 116 (24 * p + j) → k = j)
def RML (u : MS) (p q : Nat) (w : MS) : Prop := FR [] [] [116, 117] [] u w ∧ (∀ i, i ≠ p → A w 117 i = A u 117 i) ∧ (∀ i, ¬ (24 * p ≤ i ∧ i < 24 * p + 24) → A w 116 i = A u 116 i) ∧ A w 117 p ≤ A u 117 p ∧ (inL u p q → A w 117 p < A u 117 p) ∧ ¬ inL w p q ∧ ∀ x, x ≠ q → (inL w p x ↔ inL u p x)
section
variable {N PR : Nat}
theorem rl_loop {p q L : Nat} (hp1 : p < 24) (hq : (q : Int) < 2147483648) (hL : L ≤ 24) (u : MS) : ∀ (m a b : Nat) (w : MS) (g : Nat → Nat), a ≤ b → b ≤ L → L - b < m → FR [] [] [116, 117] [] u w → (∀ i, A w 117 i = A u 117 i) → A u 117 p = L → (∀ i, ¬ (24 * p ≤ i ∧ i < 24 * p + a) → A w 116 i = A u 116 i) → (∀ i, i < a → g i < b ∧ i ≤ g i ∧ A w 116 (24 * p + i) = A u 116 (24 * p + g i) ∧ A u 116 (24 * p + g i) ≠ q) → (∀ i j, i < j → j < a → g i < g j) → (∀ j, j < b → A u 116 (24 * p + j) ≠ q → ∃ i, i < a ∧ g i = j) →
    OK (fun w2 _ => ∃ (c : Nat) (g : Nat → Nat), c ≤ L ∧ FR [] [] [116, 117] [] u w2 ∧ (∀ i, A w2 117 i = if i = p then (c : Int) else A u 117 i) ∧ (∀ i, ¬ (24 * p ≤ i ∧ i < 24 * p + c) → A w2 116 i = A u 116 i) ∧ (∀ i, i < c → g i < L ∧ i ≤ g i ∧ A w2 116 (24 * p + i) = A u 116 (24 * p + g i) ∧ A u 116 (24 * p + g i) ≠ q) ∧ (∀ i j, i < j → j < c → g i < g j) ∧ (∀ j, j < L → A u 116 (24 * p + j) ≠ q → ∃ i, i < c ∧ g i = j)) (gg_M_removeLink N m w (I p) (I q) (I a) (I b)) := by
  intro m
  induction m with
  | zero => intro a b w g _ _ z; exact absurd z (Nat.not_lt_zero _)
  | succ m ih =>
    intro a b w g hab hbL hm hf h117 eL h116 h1 h2 h3
    show OK _ (fb_M_removeLink_5 N (gg_M_removeLink N m) w (I p) (I q) (I a) (I b))
    unfold fb_M_removeLink_5 fb_M_removeLink_58
    rw [inb_at (k := 117) (n := 24) rfl (by omega) (by omega) (by decide), ck_t, ck_t, I_tn (x := (p : Int)) (by omega) (by omega), Int.toNat_natCast, I_A' ((h117 p).trans eL), decI (by omega) (by omega) (by omega) (by omega)]
    by_cases e : L ≤ b
    · have eb : b = L := by omega
      subst eb
      rw [decide_eq_true (by omega), br_tq, lt_e, wa_e]
      refine ok_some.mpr ⟨a, g, hab, FR.wa hf (by decide), fun i => ?_, fun i hi => ?_, fun i hi => ?_, h2, h3⟩
      · rw [A_eq (by omega) (by omega), h117]
      · rw [A_ne (by decide)]; exact h116 i hi
      · rw [A_ne (by decide)]; exact h1 i hi
    · have hr := A_r u 116 (24 * p + b)
      have eq' : A w 116 (24 * p + b) = A u 116 (24 * p + b) := h116 _ (by omega)
      by_cases eQ : True
      · rw [decide_eq_false (by omega), br_fq, show (24 : Int32) = I 24 from rfl, I_mul, I_add, inb_at (k := 116) (n := 576) rfl (by omega) (by omega) (by decide), ck_t, I_tn (x := 24 * (p : Int) + (b : Int)) (by omega) (by omega), show (24 * (p : Int) + (b : Int)).toNat = 24 * p + b from by omega, I_A' eq', decE hr.1 hr.2 (by omega) (by omega), lit1q, I_add]
        by_cases e2 : A u 116 (24 * p + b) = q
        · rw [decide_eq_true e2, br_tq]
          refine ih a (b + 1) w g (by omega) (by omega) (by omega) hf h117 eL h116 (fun i hi => ⟨by have := (h1 i hi).1; omega, (h1 i hi).2⟩) h2 (fun j hj hne => ?_)
          by_cases e3 : j = b
          · subst e3; exact absurd e2 hne
          · exact h3 j (by omega) hne
        · rw [decide_eq_false e2, br_fq, ck_t, I_add, inb_at (k := 116) (n := 576) rfl (by omega) (by omega) (by decide), ck_t, lt_e, I_tn (by omega) (by omega), show (24 * (p : Int) + (a : Int)).toNat = 24 * p + a from by omega, wa_e, I_add]
          refine ih (a + 1) (b + 1) (wa w 116 (24 * p + a) (A u 116 (24 * p + b))) (fun i => if i = a then b else g i) (by omega) (by omega) (by omega) (FR.wa hf (by decide)) (fun i => by rw [A_ne (by decide)]; exact h117 i) eL (fun i hi => ?_) (fun i hi => ?_) (fun i j hij hj => ?_) (fun j hj hne => ?_)
          · rw [A_eq hr.1 hr.2, if_neg (by omega)]; exact h116 i (by omega)
          · rw [A_eq hr.1 hr.2]
            by_cases e3 : i = a
            · subst e3
              show (if i = i then b else g i) < b + 1 ∧ i ≤ (if i = i then b else g i) ∧ (if 24 * p + i = 24 * p + i then _ else _) = A u 116 (24 * p + (if i = i then b else g i)) ∧ _
              rw [if_pos rfl, if_pos rfl]; exact ⟨by omega, hab, rfl, e2⟩
            · rw [if_neg e3, if_neg (by omega)]
              obtain ⟨q1, q2⟩ := h1 i (by omega)
              exact ⟨by omega, q2⟩
          · simp only [if_neg (show ¬ i = a by omega)]
            by_cases e3 : j = a
            · simp only [if_pos e3]; exact (h1 i (by omega)).1
            · simp only [if_neg e3]; exact h2 i j hij (by omega)
          · by_cases e3 : j = b
            · exact ⟨a, by omega, by simp only [if_true]; exact e3.symm⟩
            · obtain ⟨i, i1, i2⟩ := h3 j (by omega) hne
              exact ⟨i, by omega, by simp only [if_neg (show ¬ i = a by omega)]; exact i2⟩
      · exact absurd trivial eQ
theorem removeLink_ok {u : MS} {p q : Nat} (hp1 : p < 24) (hq : (q : Int) < 2147483648) (h : LKR u PR p) (hN : 100 ≤ N) : OK (fun w _ => RML u p q w ∧ LKR w PR p) (fm_M_removeLink N u (I p) (I q)) := by
  obtain ⟨a1, a2, a3, a4⟩ := h
  unfold fm_M_removeLink fb_M_removeLink_0
  rw [lit0q]
  have eL : A u 117 p = ((A u 117 p).toNat : Int) := by omega
  generalize (A u 117 p).toNat = L at eL
  refine ok_mono (rl_loop (p := p) (q := q) (L := L) (N := N) hp1 hq (by omega) u N 0 0 u (fun _ => 0) (Nat.le_refl _) (Nat.zero_le _) (by omega) FR.rf (fun _ => rfl) eL (fun _ _ => rfl) (fun i hi => absurd hi (Nat.not_lt_zero _)) (fun i j _ hj => absurd hj (Nat.not_lt_zero _)) (fun j hj => absurd hj (Nat.not_lt_zero _))) (fun w _ hw => ?_)
  obtain ⟨c, g, c1, c2, c3, c4, c5, c6, c7⟩ := hw
  have ec : A w 117 p = c := by rw [c3, if_pos rfl]
  have gi : ∀ i j, i < c → j < c → g i = g j → i = j := fun i j hi hj e => by
    rcases Nat.lt_trichotomy i j with z | z | z
    · have := c6 i j z hj; omega
    · exact z
    · have := c6 j i z hi; omega
  refine ⟨⟨c2, fun i hi => by rw [c3, if_neg hi], fun i hi => c4 i (by omega), by rw [ec, eL]; omega, fun hin => ?_, fun hin => ?_, fun x hx => ⟨fun hin => ?_, fun hin => ?_⟩⟩, ?_, ?_, fun k hk => ?_, fun k j hk hj e => ?_⟩
  · obtain ⟨k, k1, k2⟩ := hin
    rw [ec, eL]
    rcases Nat.lt_or_ge c L with z | z
    · omega
    · exfalso
      have e : c = L := by omega
      have hg : ∀ i, i < c → g i = i := fun i hi => by
        have b1 : ∀ d, i + d < c → g i + d ≤ g (i + d) := by
          intro d
          induction d with
          | zero => intro _; exact Nat.le_refl _
          | succ d id =>
            intro hd
            have := id (by omega)
            have := c6 (i + d) (i + (d + 1)) (by omega) hd
            omega
        have := b1 (c - 1 - i) (by omega)
        have := (c5 (i + (c - 1 - i)) (by omega)).1
        have := (c5 i hi).2.1
        omega
      have hk : k < c := by omega
      have := (c5 k hk).2.2.2
      rw [hg k hk] at this
      exact this k2
  · obtain ⟨k, k1, k2⟩ := hin
    rw [ec] at k1
    obtain ⟨-, -, q2, q3⟩ := c5 k (by omega)
    rw [q2] at k2
    exact q3 k2
  · obtain ⟨k, k1, k2⟩ := hin
    rw [ec] at k1
    obtain ⟨q0, -, q2, -⟩ := c5 k (by omega)
    exact ⟨g k, by rw [eL]; omega, by rw [← q2]; exact k2⟩
  · obtain ⟨k, k1, k2⟩ := hin
    rw [eL] at k1
    obtain ⟨i, i1, i2⟩ := c7 k (by omega) (by rw [k2]; omega)
    obtain ⟨-, -, q2, -⟩ := c5 i i1
    exact ⟨i, by rw [ec]; omega, by rw [q2, i2]; exact k2⟩
  · rw [ec]; omega
  · rw [ec]; omega
  · rw [ec] at hk
    obtain ⟨q0, -, q2, -⟩ := c5 k (by omega)
    rw [q2]
    exact a3 (g k) (by rw [eL]; omega)
  · rw [ec] at hk hj
    obtain ⟨q0, -, q2, -⟩ := c5 k (by omega)
    obtain ⟨r0, -, r2, -⟩ := c5 j (by omega)
    rw [q2, r2] at e
    exact gi k j (by omega) (by omega) (a4 _ _ (by rw [eL]; omega) (by rw [eL]; omega) e)
end
end
section
def WTQ (w : MS) (PR : Nat) : Prop := 0 ≤ F w 125 ∧ F w 125 ≤ 200 ∧ ∀ i : Nat, (i : Int) < F w 125 → (0 ≤ A w 123 i ∧ A w 123 i < PR) ∧ (0 ≤ A w 124 i ∧ A w 124 i < PR)
def LK (w : MS) (PR : Nat) : Prop := (∀ p, p < PR → LKR w PR p) ∧ ∀ p q, p < PR → q < PR → inL w p q → inL w q p
section
variable {Fv : Int64 → Int64 → Prop} {P : Int64 → Prop} {u w : MS} {PR N : Nat}
theorem rw_loop {L : Nat} (hL : L ≤ 200) : ∀ (m k : Nat) (w : MS), k ≤ L → L - k < m → F w 125 = L → OK (fun w2 _ => FR [] [] [122, 123, 124] [] w w2 ∧ ∀ X, X = 122 ∨ X = 123 ∨ X = 124 → ∀ i, A w2 X i = if k ≤ i ∧ i < L then A w X (i + 1) else A w X i) (gg_M_removeWatch N m w (I k)) := by
  intro m
  induction m with
  | zero => intro k w _ z; exact absurd z (Nat.not_lt_zero _)
  | succ m ih =>
    intro k w hk hm hF
    show OK _ (fb_M_removeWatch_12 N (gg_M_removeWatch N m) w (I k))
    unfold fb_M_removeWatch_12
    rw [I_F' hF, decI (by omega) (by omega) (by omega) (by omega)]
    by_cases e : L ≤ k
    · rw [decide_eq_true (by omega), br_tq]
      exact ok_some.mpr ⟨FR.rf, fun X _ i => by rw [if_neg (by omega)]⟩
    · have r1 := A_r w 122 (k + 1)
      have r2 := A_r w 123 (k + 1)
      have r3 := A_r w 124 (k + 1)
      rw [decide_eq_false (by omega), br_fq, lit1q, I_add, inb_at (k := 122) (n := 4000) rfl (by omega) (by omega) (by decide), ck_t, inb_at (k := 122) (n := 4000) rfl (by omega) (by omega) (by decide), ck_t, lt_e, I_tn (x := (k : Int)) (by omega) (by omega), I_tn (x := (k : Int) + 1) (by omega) (by omega), Int.toNat_natCast, show ((k : Int) + 1).toNat = k + 1 from by omega, I_A (k := 122), wa_e]
      rw [inb_at (k := 123) (n := 4000) rfl (by omega) (by omega) (by decide), ck_t, inb_at (k := 123) (n := 4000) rfl (by omega) (by omega) (by decide), ck_t, lt_e, I_A' (show A (wa w 122 k (A w 122 (k + 1))) 123 (k + 1) = A w 123 (k + 1) from A_ne (by decide)), wa_e]
      rw [inb_at (k := 124) (n := 4000) rfl (by omega) (by omega) (by decide), ck_t, inb_at (k := 124) (n := 4000) rfl (by omega) (by omega) (by decide), ck_t, lt_e, I_A' (show A (wa (wa w 122 k (A w 122 (k + 1))) 123 k (A w 123 (k + 1))) 124 (k + 1) = A w 124 (k + 1) from by rw [A_ne (by decide), A_ne (by decide)]), wa_e]
      have b : ∀ X, X = 122 ∨ X = 123 ∨ X = 124 → ∀ i, A (wa (wa (wa w 122 k (A w 122 (k + 1))) 123 k (A w 123 (k + 1))) 124 k (A w 124 (k + 1))) X i = if i = k then A w X (k + 1) else A w X i := fun X hX i => by
        rcases hX with hX | hX | hX <;> subst hX
        · rw [A_ne (by decide), A_ne (by decide), A_eq r1.1 r1.2]
        · rw [A_ne (by decide), A_eq r2.1 r2.2, A_ne (by decide)]
        · rw [A_eq r3.1 r3.2, A_ne (by decide), A_ne (by decide)]
      refine ok_mono (ih (k + 1) _ (by omega) (by omega) hF) (fun w2 _ hw => ⟨FR.tr (FR.wa (FR.wa (FR.wa FR.rf (by decide)) (by decide)) (by decide)) hw.1, fun X hX i => ?_⟩)
      rw [hw.2 X hX, b X hX, b X hX]
      by_cases e1 : i = k
      · subst e1; rw [if_neg (by omega), if_pos rfl, if_pos (by omega)]
      · by_cases e2 : k + 1 ≤ i ∧ i < L
        · rw [if_pos e2, if_neg (by omega), if_pos (by omega)]
        · rw [if_neg e2, if_neg e1, if_neg (by omega)]
theorem removeWatch_ok {k : Nat} (h : WTQ w PR) (hk : (k : Int) < F w 125) (hN : 300 ≤ N) : OK (fun w2 _ => FR [125] [] [122, 123, 124] [] w w2 ∧ F w2 125 = F w 125 - 1 ∧ WTQ w2 PR) (fm_M_removeWatch N w (I k)) := by
  obtain ⟨h1, h2, h3⟩ := h
  unfold fm_M_removeWatch fb_M_removeWatch_0
  rw [I_F, lit1q, I_sub, lt_e, wi_e]
  have eL : F (wi w 125 (F w 125 - 1)) 125 = (((F w 125 - 1).toNat : Nat) : Int) := by rw [F_wi (by omega) (by omega), if_pos rfl]; omega
  refine ok_mono (rw_loop (L := (F w 125 - 1).toNat) (by omega) N k _ (by omega) (by omega) eL) (fun w2 _ hw => ?_)
  have e2 : F w2 125 = F w 125 - 1 := by rw [FR.F hw.1 (by decide), F_wi (by omega) (by omega), if_pos rfl]
  refine ⟨FR.tr (FR.wi FR.rf (by decide)) (FR.mo hw.1 (by decide) (by decide) (by decide) (by decide)), e2, by omega, by omega, fun i hi => ?_⟩
  rw [hw.2 123 (by omega), hw.2 124 (by omega)]
  show (0 ≤ (if _ then A w 123 (i + 1) else A w 123 i) ∧ (if _ then A w 123 (i + 1) else A w 123 i) < _) ∧ (0 ≤ (if _ then A w 124 (i + 1) else A w 124 i) ∧ (if _ then A w 124 (i + 1) else A w 124 i) < _)
  by_cases e : k ≤ i ∧ i < (F w 125 - 1).toNat
  · rw [if_pos e, if_pos e]; exact h3 (i + 1) (by omega)
  · rw [if_neg e, if_neg e]; exact h3 i (by omega)
def KEEP (u w : MS) (PR : Nat) : Prop := (∀ o, (o = 24 ∨ (o < PR ∧ A u 109 o = 3)) → A w 89 o = A u 89 o ∧ ∀ i, i < 500 → hp w o i = hp u o i) ∧ ∀ o, o < PR → A u 109 o = 3 → A w 109 o = 3
theorem KEEP.rf : KEEP u u PR := ⟨fun _ _ => ⟨rfl, fun _ _ => rfl⟩, fun _ _ h => h⟩
theorem KEEP.tr {v : MS} (a : KEEP u v PR) (b : KEEP v w PR) : KEEP u w PR := by
  refine ⟨fun o h => ?_, fun o h1 h2 => b.2 o h1 (a.2 o h1 h2)⟩
  have h' : o = 24 ∨ (o < PR ∧ A v 109 o = 3) := by
    rcases h with h | h
    · exact Or.inl h
    · exact Or.inr ⟨h.1, a.2 o h.1 h.2⟩
  obtain ⟨a1, a2⟩ := a.1 o h
  obtain ⟨b1, b2⟩ := b.1 o h'
  exact ⟨b1.trans a1, fun i hi => (b2 i hi).trans (a2 i hi)⟩
theorem KEEP.fr {is ls as js : List Nat} (f : FR is ls as js u w) (h1 : 89 ∉ as) (h2 : 109 ∉ as) (h3 : 88 ∉ js) : KEEP u w PR :=
  ⟨fun o _ => ⟨FR.A f h1, fun i _ => by unfold hp; rw [f.2.2.2 88 h3]⟩, fun o _ h => by rw [FR.A f h2]; exact h⟩
theorem GTP_keep {o : Nat} {t : Int64} (k : KEEP u w PR) (ho : o = 24 ∨ (o < PR ∧ A u 109 o = 3)) (g : GTP Fv P u o t) : GTP Fv P w o t := by
  obtain ⟨n, ow, kd, a, b, c, d⟩ := g
  obtain ⟨k1, k2⟩ := k.1 o ho
  exact ⟨n, ow, kd, by rw [k1]; exact a, b, HP_own c (Nat.le_refl _) (fun i hi _ => k2 i (by omega)) (fun _ _ _ => rfl) (fun _ _ _ => rfl) (fun i hi e => ⟨hi, e⟩), d⟩
theorem TE_keep {o : Nat} {t : Int64} (k : KEEP u w PR) (h : TE Fv P u PR o t) : TE Fv P w PR o t := by
  rcases h with h | ⟨h1, h2, h3⟩
  · exact Or.inl h
  · refine Or.inr ⟨h1, ?_, GTP_keep k h2 h3⟩
    rcases h2 with h2 | h2
    · exact Or.inl h2
    · exact Or.inr ⟨h2.1, k.2 o h2.1 h2.2⟩
theorem MSG_keep {q : Nat} (m : MSG Fv P PR u q w) (hq : q < PR) (pr : PR ≤ 24) (hal : A u 109 q ≠ 3) : KEEP u w PR := by
  obtain ⟨m1, m2, m3, m4, m5, -⟩ := m
  have ne : ∀ o, (o = 24 ∨ (o < PR ∧ A u 109 o = 3)) → o ≠ q := fun o h e => by
    rcases h with h | h
    · omega
    · rw [e] at h; exact hal h.2
  refine ⟨fun o h => ⟨(m3 o (ne o h)).2.2, fun i hi => ?_⟩, fun o h1 h2 => by rw [(m3 o (ne o (Or.inr ⟨h1, h2⟩))).1]; exact h2⟩
  have := ne o h
  unfold hp
  exact m5 _ (by omega)
def EVF (u w : MS) : Prop := FR [136, 138, 140, 150] [139] [89, 90, 108, 109, 135, 142, 145, 146, 147] [88, 91, 93, 107, 134, 137, 141, 148] u w ∧ ∀ p, A w 109 p = A u 109 p ∨ A w 109 p = 3
theorem MSG_evf {q : Nat} (m : MSG Fv P PR u q w) : EVF u w := ⟨m.2.1, fun p => by
  by_cases e : p = q
  · subst e; exact m.2.2.2.1
  · exact Or.inl (m.2.2.1 p e).1⟩
theorem EVF.rf : EVF u u := ⟨FR.rf, fun _ => Or.inl rfl⟩
theorem EVF.tr {v : MS} (a : EVF u v) (b : EVF v w) : EVF u w := ⟨FR.tr a.1 b.1, fun p => by
  rcases b.2 p with h | h
  · rw [h]; exact a.2 p
  · exact Or.inr h⟩
theorem TE_tm {q o : Nat} {t : Int64} (h : TE Fv P u PR o t) (ho : o ≤ 24) (hq : q < PR) (pr : PR ≤ 24) (hal : A u 109 q ≠ 3) : TM Fv P u q o t := by
  rcases h with h | ⟨h1, h2, h3⟩
  · exact Or.inl ⟨by omega, h⟩
  · refine Or.inr (Or.inl ⟨by omega, fun e => ?_, h3⟩)
    rcases h2 with h2 | h2
    · omega
    · rw [e] at h2; exact hal h2.2
theorem message_ev {q o sort p : Nat} {t : Int64} {r wr : Int} (d : DW Fv P PR u) (hq : q < PR) (hPB : PB P PR) (hsort : sort ≤ 2) (hp1 : sort < 2 → p < PR) (hr : -2147483648 ≤ r ∧ r < 2147483648) (hpr : (p : Int) < 2147483648) (hw : 0 ≤ wr ∧ wr ≤ 2) (ho : o ≤ 24) (ht : TE Fv P u PR o t) (hN : 60000 ≤ N) :
    OK (fun w2 _ => DW Fv P PR w2 ∧ EVF u w2 ∧ KEEP u w2 PR) (fm_M_message N u (I q) (I sort) (I r) (I p) (I wr) (I o) t) := by
  have pr := d.1.2
  by_cases e : A u 109 q = 3
  · unfold fm_M_message fb_M_message_0 fb_M_message_21
    rw [inb_at (k := 109) (n := 24) rfl (by omega) (by omega) (by decide), ck_t, I_tn (by omega) (by omega), Int.toNat_natCast, I_A' e, show (3 : Int32) = I 3 from rfl, decE (by omega) (by omega) (by omega) (by omega), decide_eq_true rfl, br_tq]
    exact ok_some.mpr ⟨d, EVF.rf, KEEP.rf⟩
  · exact ok_mono (message_ok d hq hPB hsort hp1 hr hpr hw (fun h => TE_tm ht ho hq pr h) hN) (fun w2 _ m => ⟨m.1, MSG_evf m, MSG_keep m hq pr e⟩)
theorem willEnd_ev {p o : Nat} {wr : Int} {t : Int64} (d : DW Fv P PR u) (hp1 : p < PR) (hw : 0 ≤ wr ∧ wr ≤ 2) (ho : o ≤ 24) (ht : TE Fv P u PR o t) : OK (fun w2 _ => DW Fv P PR w2 ∧ EVF u w2 ∧ KEEP u w2 PR) (fm_M_willEnd N u (I p) (I wr) (I o) t) := by
  refine ok_mono (willEnd_ok d hp1 hw ho ?_) (fun w2 _ h => ⟨h.1, ⟨FR.mo h.2.1 (by decide) (by decide) (by decide) (by decide), fun q => ?_⟩, ⟨fun o _ => ⟨FR.A h.2.1 (by decide), fun i _ => by unfold hp; rw [h.2.1.2.2.2 88 (by decide)]⟩, fun o h1 h2 => ?_⟩⟩)
  · rcases ht with ht | ⟨h1, h2, h3⟩
    · exact Or.inl ht
    · refine Or.inr ⟨h1, ?_, h3⟩
      rcases h2 with h2 | h2
      · exact Or.inl h2
      · exact Or.inr ⟨h2.1, Or.inl h2.2⟩
  · by_cases e : q = p
    · subst e; exact Or.inr h.2.2.1
    · exact Or.inl (h.2.2.2 q e)
  · by_cases e : o = p
    · subst e; exact h.2.2.1
    · rw [h.2.2.2 o e]; exact h2
theorem signal_ok {q p o : Nat} {wr : Int} {t : Int64} (d : DW Fv P PR u) (hq : q < PR) (hp1 : p < PR) (hPB : PB P PR) (hw : 0 ≤ wr ∧ wr ≤ 2) (ho : o ≤ 24) (ht : TE Fv P u PR o t) (hN : 60000 ≤ N) :
    OK (fun w2 _ => DW Fv P PR w2 ∧ EVF u w2 ∧ KEEP u w2 PR) (fm_M_signal N u (I q) (I p) (I wr) (I o) t) := by
  have pr := d.1.2
  unfold fm_M_signal fb_M_signal_0 fb_M_signal_51 fb_M_signal_61
  rw [inb_at (k := 109) (n := 24) rfl (by omega) (by omega) (by decide), ck_t, inb_at (k := 112) (n := 24) rfl (by omega) (by omega) (by decide), ck_t]
  have wE := willEnd_ev (N := N) d hq hw ho ht
  refine ok_br.mpr ⟨fun _ => ok_some.mpr ⟨d, EVF.rf, KEEP.rf⟩, fun _ => ok_br.mpr ⟨fun _ => ok_br.mpr ⟨fun _ => ?_, fun _ => ok_bnd.mpr (ok_mono wE (fun w2 _ h => ok_some.mpr h))⟩, fun _ => ?_⟩⟩
  · rw [lit1q, show (4 : Int32) = I 4 from rfl, term_e, bnd_so]
    exact ok_br.mpr ⟨fun _ => ok_some.mpr ⟨d, EVF.rf, KEEP.rf⟩, fun _ => ok_bnd.mpr (ok_mono wE (fun w2 _ h => ok_some.mpr h))⟩
  · rw [lit0q]
    exact ok_bnd.mpr (ok_mono (message_ev (sort := 0) (r := 0) d hq hPB (by omega) (fun _ => hp1) (by omega) (by omega) hw ho ht hN) (fun w2 _ h => ok_some.mpr h))
end
end
