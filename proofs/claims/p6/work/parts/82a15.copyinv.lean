def DST (st : Nat → Prop) (src : Nat → Int64) (d y : Int64) : Prop := (¬ isH y ∧ d = y) ∨ (isH y ∧ so d = so y ∧ 0 ≤ va d ∧ st (vn d) ∧ src (vn d) = y)
def CPI (hS : Nat → Int64) (nS : Nat) (owS kdS : Nat → Nat) (Fv : Int64 → Int64 → Prop) (P : Int64 → Prop) (f n0 : Nat) (g : Nat → Int64) (cur many kc jc : Nat) (sk : Nat → Int64) (at' : Nat → Int) (c : Nat → Nat) (st : Nat → Prop) (src : Nat → Int64) (oo : Nat → Nat) : Prop :=
  n0 ≤ cur ∧
  (∀ i, i < many → isH (sk i) ∧ SZ hS nS owS kdS Fv P f (sk i) (c i) ∧ (at' i = -1 ∨ (0 ≤ at' i ∧ ∃ k j, st k ∧ prt (src k) ≤ j ∧ j < blk hS (src k) ∧ (at' i).toNat = k + j ∧ hS (vn (src k) + j) = sk i))) ∧
  (∀ k, st k → n0 ≤ k ∧ k + blk hS (src k) ≤ cur ∧ isH (src k) ∧ GT nS owS kdS P (src k) ∧ (∀ j, j < blk hS (src k) → oo (k + j) = k) ∧ (∀ j, j < blk hS (src k) → (k = kc → j < jc) → (j < prt (src k) → g (k + j) = hS (vn (src k) + j)) ∧ (prt (src k) ≤ j → (∃ i, i < many ∧ at' i = ((k + j : Nat) : Int) ∧ sk i = hS (vn (src k) + j)) ∨ DST st src (g (k + j)) (hS (vn (src k) + j))))) ∧
  (∀ x, n0 ≤ x → x < cur → ∃ k j, st k ∧ j < blk hS (src k) ∧ x = k + j)
section
variable {hS : Nat → Int64} {nS f n0 : Nat} {owS kdS : Nat → Nat} {Fv : Int64 → Int64 → Prop} {P : Int64 → Prop} {g : Nat → Int64} {cur many kc jc : Nat} {sk : Nat → Int64} {at' : Nat → Int} {c : Nat → Nat} {st : Nat → Prop} {src : Nat → Int64} {oo : Nat → Nat}
theorem DST_mo {st2 : Nat → Prop} {src2 : Nat → Int64} {d y : Int64} (z : DST st src d y) (h1 : ∀ k, st k → st2 k ∧ src2 k = src k) : DST st2 src2 d y := by
  rcases z with z | ⟨a, b, c, d, e⟩
  · exact Or.inl z
  · exact Or.inr ⟨a, b, c, (h1 _ d).1, by rw [(h1 _ d).2]; exact e⟩
theorem CPI_pop {g2 : Nat → Int64} {x : Int64} {a : Int} (i : CPI hS nS owS kdS Fv P f n0 g cur (many + 1) cur 0 sk at' c st src oo) (hx : sk many = x) (ha : at' many = a)
    (hg : ∀ j, (a ≠ -1 ∧ j = a.toNat → so (g2 j) = so x ∧ va (g2 j) = cur) ∧ (¬ (a ≠ -1 ∧ j = a.toNat) → g2 j = g j)) :
    CPI hS nS owS kdS Fv P f n0 g2 (cur + blk hS x) many cur 0 sk at' c (fun k => st k ∨ k = cur) (fun k => if k = cur then x else src k) (fun z => if cur ≤ z then cur else oo z) := by
  obtain ⟨i1, i2, i3, i4⟩ := i
  obtain ⟨s1, s2, s3⟩ := i2 many (by omega)
  rw [hx] at s1 s2 s3
  rw [ha] at s3
  have gx := SZ_gt s2
  have bp := blk_pos (h := hS) s1
  have ncur : ∀ k, st k → k < cur := fun k hk => by
    obtain ⟨-, b, c, -⟩ := i3 k hk
    have := blk_pos (h := hS) c
    omega
  have esrc : ∀ k, st k → (if k = cur then x else src k) = src k := fun k hk => if_neg (by have := ncur k hk; omega)
  have mo : ∀ k, st k → (st k ∨ k = cur) ∧ (fun k => if k = cur then x else src k) k = src k := fun k hk => ⟨Or.inl hk, esrc k hk⟩
  refine ⟨by omega, fun q hq => ?_, fun k hk => ?_, fun z h1 h2 => ?_⟩
  · obtain ⟨t1, t2, t3⟩ := i2 q (by omega)
    refine ⟨t1, t2, ?_⟩
    rcases t3 with t3 | ⟨t3, k, j, t4, t5, t6, t7, t8⟩
    · exact Or.inl t3
    · refine Or.inr ⟨t3, k, j, Or.inl t4, ?_, ?_, t7, ?_⟩
      · simp only [esrc k t4]; exact t5
      · simp only [esrc k t4]; exact t6
      · simp only [esrc k t4]; exact t8
  · rcases hk with hk | hk
    · obtain ⟨r1, r2, r3, r4, r5, r6⟩ := i3 k hk
      have lt := ncur k hk
      simp only [esrc k hk]
      refine ⟨r1, by omega, r3, r4, fun j hj => ?_, fun j hj hjc => ?_⟩
      · rw [if_neg (by omega)]; exact r5 j hj
      · obtain ⟨y1, y2⟩ := r6 j hj (fun z => by omega)
        refine ⟨fun hp2 => ?_, fun hp2 => ?_⟩
        · have := (hg (k + j)).2 (fun ⟨z1, z2⟩ => by
            rcases s3 with s3 | ⟨s3, k', j', t4, t5, t6, t7, t8⟩
            · exact z1 s3
            · have e1 := r5 j hj
              have e2 := (i3 k' t4).2.2.2.2.1 j' t6
              rw [← t7, ← z2, e1] at e2
              subst e2
              omega)
          rw [this]; exact y1 hp2
        · by_cases hit : a ≠ -1 ∧ k + j = a.toNat
          · obtain ⟨g1, g2'⟩ := (hg (k + j)).1 hit
            right
            rcases s3 with s3 | ⟨s3, k', j', t4, t5, t6, t7, t8⟩
            · exact absurd s3 hit.1
            · have e1 := r5 j hj
              have e2 := (i3 k' t4).2.2.2.2.1 j' t6
              rw [← t7, ← hit.2, e1] at e2
              subst e2
              have ej : j = j' := by omega
              subst ej
              rw [t8]
              refine Or.inr ⟨s1, g1, by omega, Or.inr (by unfold vn; omega), ?_⟩
              show (if vn (g2 (k + j)) = cur then x else _) = x
              rw [if_pos (by unfold vn; omega)]
          · rw [(hg (k + j)).2 hit]
            rcases y2 hp2 with ⟨q, q1, q2, q3⟩ | y2
            · by_cases eq : q = many
              · subst eq
                exact absurd ⟨by rw [← ha, q2]; omega, by rw [← ha, q2]; omega⟩ hit
              · exact Or.inl ⟨q, by omega, q2, q3⟩
            · exact Or.inr (DST_mo y2 mo)
    · subst hk
      simp only [if_true]
      refine ⟨i1, Nat.le_refl _, s1, gx, fun j hj => if_pos (by omega), fun j hj hjc => absurd (hjc trivial) (Nat.not_lt_zero _)⟩
  · by_cases e : z < cur
    · obtain ⟨k, j, t1, t2, t3⟩ := i4 z h1 e
      exact ⟨k, j, Or.inl t1, by simp only [esrc k t1]; exact t2, t3⟩
    · exact ⟨cur, z - cur, Or.inr rfl, by simp only [if_true]; omega, by omega⟩
theorem CPI_cell {g2 : Nat → Int64} {y : Int64} (i : CPI hS nS owS kdS Fv P f n0 g cur many kc jc sk at' c st src oo) (hk : st kc) (hj : jc < blk hS (src kc)) (hy : hS (vn (src kc) + jc) = y) (hg : ∀ z, g2 z = if z = kc + jc then y else g z) (hn : jc < prt (src kc) ∨ ¬ isH y) : CPI hS nS owS kdS Fv P f n0 g2 cur many kc (jc + 1) sk at' c st src oo := by
  obtain ⟨i1, i2, i3, i4⟩ := i
  refine ⟨i1, i2, fun k hk2 => ?_, i4⟩
  obtain ⟨r1, r2, r3, r4, r5, r6⟩ := i3 k hk2
  refine ⟨r1, r2, r3, r4, r5, fun j hj2 hjc => ?_⟩
  by_cases e : k + j = kc + jc
  · have e1 := r5 j hj2
    have e2 := (i3 kc hk).2.2.2.2.1 jc hj
    rw [e, e2] at e1
    subst e1
    have ej : j = jc := by omega
    subst ej
    rw [hg, if_pos rfl, hy]
    refine ⟨fun _ => rfl, fun hp2 => Or.inr (Or.inl ⟨?_, rfl⟩)⟩
    rcases hn with hn | hn
    · omega
    · exact hn
  · rw [hg, if_neg e]
    exact r6 j hj2 (fun z => by have := hjc z; subst z; omega)
theorem CPI_push {g2 : Nat → Int64} {sk2 : Nat → Int64} {at2 : Nat → Int} {y : Int64} {d : Nat} (i : CPI hS nS owS kdS Fv P f n0 g cur many kc jc sk at' c st src oo) (hk : st kc) (hj : jc < blk hS (src kc)) (hp : prt (src kc) ≤ jc) (hy : hS (vn (src kc) + jc) = y) (hyh : isH y) (hz : SZ hS nS owS kdS Fv P f y d) (hg : ∀ z, g2 z = if z = kc + jc then y else g z) (h1 : ∀ q, sk2 q = if q = many then y else sk q) (h2 : ∀ q, at2 q = if q = many then ((kc + jc : Nat) : Int) else at' q) : CPI hS nS owS kdS Fv P f n0 g2 cur (many + 1) kc (jc + 1) sk2 at2 (fun q => if q = many then d else c q) st src oo := by
  obtain ⟨i1, i2, i3, i4⟩ := i
  refine ⟨i1, fun q hq => ?_, fun k hk2 => ?_, i4⟩
  · by_cases e : q = many
    · subst e
      rw [h1, h2, if_pos rfl, if_pos rfl]
      simp only [if_true]
      exact ⟨hyh, hz, Or.inr ⟨by omega, kc, jc, hk, hp, hj, by omega, hy⟩⟩
    · rw [h1, h2, if_neg e, if_neg e]
      simp only [if_neg e]
      exact i2 q (by omega)
  · obtain ⟨r1, r2, r3, r4, r5, r6⟩ := i3 k hk2
    refine ⟨r1, r2, r3, r4, r5, fun j hj2 hjc => ?_⟩
    by_cases e : k + j = kc + jc
    · have e1 := r5 j hj2
      have e2 := (i3 kc hk).2.2.2.2.1 jc hj
      rw [e, e2] at e1
      subst e1
      have ej : j = jc := by omega
      subst ej
      rw [hg, if_pos rfl, hy]
      refine ⟨fun _ => rfl, fun hp2 => Or.inl ⟨many, by omega, ?_, ?_⟩⟩
      · rw [h2, if_pos rfl]
      · rw [h1, if_pos rfl]
    · rw [hg, if_neg e]
      obtain ⟨y1, y2⟩ := r6 j hj2 (fun z => by have := hjc z; subst z; omega)
      refine ⟨y1, fun hp2 => ?_⟩
      rcases y2 hp2 with ⟨q, q1, q2, q3⟩ | y2
      · exact Or.inl ⟨q, by omega, by rw [h2, if_neg (by omega)]; exact q2, by rw [h1, if_neg (by omega)]; exact q3⟩
      · exact Or.inr y2
theorem CPI_out (i : CPI hS nS owS kdS Fv P f n0 g cur many kc jc sk at' c st src oo) (h : jc = blk hS (src kc)) : CPI hS nS owS kdS Fv P f n0 g cur many cur 0 sk at' c st src oo := by
  obtain ⟨i1, i2, i3, i4⟩ := i
  refine ⟨i1, i2, fun k hk => ?_, i4⟩
  obtain ⟨r1, r2, r3, r4, r5, r6⟩ := i3 k hk
  exact ⟨r1, r2, r3, r4, r5, fun j hj _ => r6 j hj (fun z => by subst z; omega)⟩
theorem CPI_end {hD : Nat → Int64} {owD kdD : Nat → Nat} (gS : HP hS nS owS kdS Fv P) (gD : HP hD n0 owD kdD Fv P) (i : CPI hS nS owS kdS Fv P f n0 g cur 0 cur 0 sk at' c st src oo) (hg : ∀ z, z < n0 → g z = hD z) :
    ∃ ow2 kd2, HP g cur ow2 kd2 Fv P ∧ (∀ t, GT n0 owD kdD P t → GT cur ow2 kd2 P t) ∧ (∀ f2 t s, SZ hD n0 owD kdD Fv P f2 t s → SZ g cur ow2 kd2 Fv P f2 t s) ∧ (∀ f2 d y s, DST st src d y → SZ hS nS owS kdS Fv P f2 y s → SZ g cur ow2 kd2 Fv P f2 d s) ∧ ∀ z, z < n0 → ow2 z = owD z := by
  obtain ⟨i1, i2, i3, i4⟩ := i
  have ext : ∀ f2 t s, SZ hD n0 owD kdD Fv P f2 t s → SZ g cur (fun z => if n0 ≤ z then oo z else owD z) (fun z => if n0 ≤ z then (so (src z)).toNat else kdD z) Fv P f2 t s := fun f2 t s z =>
    SZ_ext i1 hg (fun q hq => if_neg (by omega)) (fun q hq => if_neg (by omega)) (fun _ _ q => q) (fun _ q => q) z
  have cells : ∀ k, st k → ∀ j, j < blk hS (src k) → (j < prt (src k) → g (k + j) = hS (vn (src k) + j)) ∧ (prt (src k) ≤ j → DST st src (g (k + j)) (hS (vn (src k) + j))) := fun k hk j hj => by
    obtain ⟨r1, r2, r3, r4, r5, r6⟩ := i3 k hk
    have bp := blk_pos (h := hS) r3
    obtain ⟨y1, y2⟩ := r6 j hj (fun z => by omega)
    refine ⟨y1, fun z => ?_⟩
    rcases y2 z with ⟨q, q1, -⟩ | y2
    · omega
    · exact y2
  have szd : ∀ f2 d y s, DST st src d y → SZ hS nS owS kdS Fv P f2 y s → SZ g cur (fun z => if n0 ≤ z then oo z else owD z) (fun z => if n0 ≤ z then (so (src z)).toNat else kdD z) Fv P f2 d s := by
    intro f2
    induction f2 with
    | zero => intro d y s _ z; exact z.elim
    | succ f2 ih =>
      intro d y s hd z
      rcases hd with ⟨d1, d2⟩ | ⟨d1, d2, d3, d4, d5⟩
      · subst d2
        rcases z with z | ⟨z, -⟩
        · exact Or.inl z
        · exact absurd z d1
      · rcases z with ⟨z, -⟩ | ⟨-, b, cc, z3, z4⟩
        · exact absurd d1 z
        obtain ⟨r1, r2, r3, r4, r5, r6⟩ := i3 _ d4
        have cl := cells _ d4
        rw [d5] at r2 r5 cl
        have ep : prt d = prt y := prt_so d2
        have bp := blk_pos (h := hS) d1
        have pl := prt_le (h := hS) d1
        have eb : blk g d = blk hS y := by
          unfold blk
          rw [d2]
          rcases d1 with e | e | e
          · rw [e]; simp
            have := (cl 1 (by unfold blk; rw [e]; simp; omega)).1 (by unfold prt; rw [e]; decide)
            rw [this]
          · rw [e]; simp
            have := (cl 0 bp).1 (by unfold prt; rw [e]; decide)
            rw [show vn d + 0 = vn d from rfl, show vn y + 0 = vn y from rfl] at this
            rw [this]
          · rw [e]; simp
        have hso : 0 ≤ so y := by rcases d1 with e | e | e <;> omega
        refine Or.inr ⟨by unfold isH; rw [d2]; exact d1, ⟨d3, fun e => ?_, fun e => ?_, by rw [eb]; omega, ?_, ?_⟩, cc, ?_, ?_⟩
        · rw [d2] at e
          have := (cl 0 bp).1 (by unfold prt; rw [e]; decide)
          rw [show vn d + 0 = vn d from rfl, show vn y + 0 = vn y from rfl] at this
          rw [this]; exact b.2.1 e
        · rw [d2] at e
          have q0 := (cl 0 bp).1 (by unfold prt; rw [e]; decide)
          have q1 := (cl 1 (by unfold blk; rw [e]; simp; omega)).1 (by unfold prt; rw [e]; decide)
          rw [show vn d + 0 = vn d from rfl, show vn y + 0 = vn y from rfl] at q0
          rw [q0, q1]; exact b.2.2.1 e
        · show ((if n0 ≤ vn d then (so (src (vn d))).toNat else kdD (vn d) : Nat) : Int) = so d
          rw [if_pos r1, d5, d2]; omega
        · rw [eb]
          intro j hj
          show (if n0 ≤ vn d + j then oo (vn d + j) else _) = vn d
          rw [if_pos (by omega)]; exact r5 j hj
        · rw [eb, ep]
          intro j a b2
          exact ih _ _ _ ((cl j b2).2 a) (z3 j a b2)
        · rw [eb, ep]; exact z4
  refine ⟨_, _, ?_, fun t gt => ?_, ext, szd, fun z hz => if_neg (by omega)⟩
  · intro t ht gt
    rcases gt with ⟨z, -⟩ | ⟨-, g1, g2, g3, g4⟩
    · exact absurd ht z
    by_cases e : vn t < n0
    · have e1 : owD (vn t) = vn t := by have := g3; simp only [if_neg (show ¬ n0 ≤ vn t by omega)] at this; exact this
      have e2 : (kdD (vn t) : Int) = so t := by have := g4; simp only [if_neg (show ¬ n0 ≤ vn t by omega)] at this; exact this
      have gt0 : GT n0 owD kdD P t := Or.inr ⟨ht, g1, e, e1, e2⟩
      obtain ⟨f2, s, z1, z2⟩ := gD t ht gt0
      refine ⟨f2, s, ext _ _ _ z1, fun h5 => ?_⟩
      obtain ⟨q1, q2, q3⟩ := z2 h5
      have bn := (HP_bk gD ht gt0).1.2.2.2.1
      have r1 : blk g t = 3 := by
        have q2' := q2
        unfold blk at q2' ⊢
        rw [q1] at q2' ⊢
        simp at q2' ⊢
        rw [hg _ e]; exact q2'
      exact ⟨q1, r1, by rw [hg _ (by omega)]; exact q3⟩
    · have e1 : oo (vn t) = vn t := by have := g3; simp only [if_pos (show n0 ≤ vn t by omega)] at this; exact this
      have e2 : (((so (src (vn t))).toNat : Nat) : Int) = so t := by have := g4; simp only [if_pos (show n0 ≤ vn t by omega)] at this; exact this
      obtain ⟨k, j, k1, k2, k3⟩ := i4 (vn t) (by omega) g2
      have ek : vn t = k := by have := (i3 k k1).2.2.2.2.1 j k2; rw [← k3, e1] at this; exact this
      rw [← ek] at k1 k2
      obtain ⟨r1, r2, r3, r4, r5, r6⟩ := i3 _ k1
      have hso : 0 ≤ so (src (vn t)) := by rcases r3 with e | e | e <;> omega
      have hd : DST st src t (src (vn t)) := Or.inr ⟨r3, by omega, g1, k1, rfl⟩
      obtain ⟨f2, s, z1, z2⟩ := gS _ r3 r4
      have sz := szd f2 t _ s hd z1
      refine ⟨f2, s, sz, fun h5 => ?_⟩
      obtain ⟨q1, q2, q3⟩ := z2 h5
      have cl := cells _ k1
      have es : so t = so (src (vn t)) := by omega
      have c0 := (cl 0 (by omega)).1 (by unfold prt; rw [q1]; decide)
      rw [show vn t + 0 = vn t from rfl, show vn (src (vn t)) + 0 = vn (src (vn t)) from rfl] at c0
      refine ⟨by rw [es]; exact q1, ?_, ?_⟩
      · have q2' := q2
        unfold blk at q2' ⊢
        rw [es]
        rw [q1] at q2' ⊢
        simp at q2' ⊢
        rw [c0]; exact q2'
      · rcases (cl 1 (by omega)).2 (by unfold prt; rw [q1]; decide) with ⟨-, y2⟩ | ⟨y, -⟩
        · rw [y2]; exact q3
        · exact absurd y q3
  · rcases gt with z | ⟨z1, z2, z3, z4, z5⟩
    · exact Or.inl z
    · refine Or.inr ⟨z1, z2, by omega, ?_, ?_⟩
      · show (if n0 ≤ vn t then oo (vn t) else owD (vn t)) = vn t
        rw [if_neg (by omega)]; exact z4
      · show ((if n0 ≤ vn t then (so (src (vn t))).toNat else kdD (vn t) : Nat) : Int) = so t
        rw [if_neg (by omega)]; exact z5
end
