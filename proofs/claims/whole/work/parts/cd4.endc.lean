/-! another ENDS in a step of p: the world, whatever cells are used -/
set_option maxRecDepth 100000
section
variable {b : Int → Nat → Nat → Prop} {Fv Fv' : Int64 → Int64 → Prop} {P P' : Int64 → Prop} {N PR q r p i j jj U B W Y a n o : Nat} {m w m2 w2 mC : MS} {nb : Nat → Nat} {Hs Os : Nat → List Nat} {y : Option (Nat × Nat × Nat)}
/-- the world behind a step of p in which q ENDS, where no end waits -/
theorem WL_endc (wl : WLs (RRt p) PR Fv P Fv' P' none i j m w) (hal : F m (pq p 9) ≠ 3) (halq : F m (pq q 9) ≠ 3) (hqp : q ≠ p) (hq0 : q < PR) (hq : F m 955 = ((i : Nat) : Int)) (s2 : SFs Fv P Fv' P' PR m2 w2) (D : ∀ d, d ≠ p → d ≠ q → LOCm d m m2 ∧ (d < PR → LOCw d w w2)) (pg : PG0 m w m2 w2) (e1 : F m2 955 = ((i + 1 : Nat) : Int)) (e54 : A m2 54 i = ((q : Nat) : Int)) (e2 : F w2 150 = ((j + 1 : Nat) : Int)) (e145 : A w2 145 j = ((q : Nat) : Int)) (e146 : A w2 146 j = 0) (e147 : A w2 147 j = ((o : Nat) : Int)) (k9 : F m2 (pq q 9) = 3 ∧ A w2 109 q = 3) (rq : RQs Fv P Fv' P' PR m2 w2 q 0 o (w2.2.2.2 148 j)) (qe : QEs m2 w2 q) (pl : PLs b p m2 w2 U B W Y) (sc2 : SCs p m2 w2) (ru : RUs m2 w2 p jj nb Hs Os y a n) : WLs (RRp p) PR Fv P Fv' P' none i j m2 w2 := by
  obtain ⟨sf, ⟨n0, q1, q2, -, -⟩, pr, -⟩ := id wl
  have hn0 : n0 = 0 := by
    rw [hq] at q1
    omega
  subst hn0
  have f9 : ∀ d, d ≠ p → d ≠ q → F m2 (pq d 9) = F m (pq d 9) := fun d hd h2 => congrArg Int32.toInt ((D d hd h2).1 9 (by omega)).1
  have a9 : ∀ d, d ≠ p → d ≠ q → d < PR → A w2 109 d = A w 109 d := fun d hd h2 h3 => congrArg Int32.toInt (((D d hd h2).2 h3).1 109 d (Or.inl ⟨by omega, rfl⟩))
  refine ⟨s2, ⟨1, e1, e2, fun k hk => ?_, fun k l hk hl _ => by omega⟩, fun r hr => ?_, RRp_stb⟩
  · have k0 : k = 0 := by omega
    subst k0
    exact ⟨q, 0, o, ⟨hq0, fun c => (by cases c), k9.1⟩, e54, e145, e146, e147, rq, qe⟩
  by_cases rn : r = q
  · subst rn
    exact Or.inr ⟨k9.1, k9.2, Or.inr (Or.inl ⟨i, Nat.le_refl _, by rw [e1]; omega, e54⟩)⟩
  by_cases rq' : r = p
  · subst rq'
    exact Or.inl ⟨by rw [ru.2.2.2.1.1]; omega, by rw [ru.2.2.2.1.2]; omega, b, U, B, W, Y, pl, sc2, Or.inl ⟨rfl, jj, nb, Hs, Os, y, a, n, ru⟩⟩
  obtain ⟨l1, l2'⟩ := D r rq' rn
  have l2 := l2' hr
  rcases pr r hr with ⟨x1, x2, b', U', B', W', Y', pl', sc', rr⟩ | ⟨x1, x2, x⟩
  · obtain ⟨-, -, ⟨b1, b2, b3⟩, b4⟩ := SF_al sf hr x1 pl'
    have hU := pl'.1.1.2.2
    have rr2 : WTr r m w := by
      rcases rr with rr | rr
      · exact absurd rr rq'
      · exact rr
    obtain ⟨t1, t2, t3⟩ := AL_loc ⟨pl', sc', rr2⟩ ⟨hU, b1, b2, b3, b4.2⟩ pg l1 l2
    exact Or.inl ⟨by rw [f9 r rq' rn]; exact x1, by rw [a9 r rq' rn hr]; exact x2, b', U', B', W', Y', t1, t2, Or.inr ⟨rq', t3⟩⟩
  · refine Or.inr ⟨by rw [f9 r rq' rn]; exact x1, by rw [a9 r rq' rn hr]; exact x2, Or.inr (Or.inr ?_)⟩
    rcases x with x | ⟨k, k1, k2, -⟩ | x
    · cases x
    · rw [hq] at k2
      omega
    · refine DEs_st2 x pg l1 l2 (fun d hd h3 => ?_)
      have dp : d ≠ p := fun c => hal (by rw [← c]; exact h3)
      have dn : d ≠ q := fun c => halq (by rw [← c]; exact h3)
      exact ⟨by rw [f9 d dp dn]; exact h3, ((D d dp dn).1 2 (by omega)).2.2.2⟩
/-- mC, but what is p's own as in m -/
def swM (p : Nat) (m mC : MS) : MS := (fun k => if k = pq p 4 ∨ k = pq p 5 ∨ k = pq p 26 ∨ k = pq p 45 ∨ k = 1105 then m.1 k else mC.1 k, mC.2.1, mC.2.2.1, fun K => if K = pq p 2 ∨ K = pq p 3 ∨ K = pq p 33 ∨ K = pq p 35 ∨ K = pq p 6 ∨ K = 44 ∨ K = 45 ∨ K = 46 then m.2.2.2 K else mC.2.2.2 K)
theorem swM_fg : FGm p (swM p m mC) mC := ⟨fun k hk => (if_neg (by simpa using hk)).symm, fun _ _ => rfl, fun _ _ => rfl, fun K hK => (if_neg (by simpa using hK)).symm⟩
/-- p's own fields are those of m -/
theorem swM_eq {mA : MS} (f : FGm p m mA) (L : LOCm p mA mC) (h23 : mC.2.2.1 23 = mA.2.2.1 23) : EQm p m (swM p m mC) := by
  refine ⟨fun k hk _ => ?_, fun k hk _ => ?_, fun k hk => ?_, ?_⟩
  · by_cases c : pq p k = pq p 4 ∨ pq p k = pq p 5 ∨ pq p k = pq p 26 ∨ pq p k = pq p 45 ∨ pq p k = 1105
    · exact if_pos c
    · rw [show (swM p m mC).1 (pq p k) = mC.1 (pq p k) from if_neg c, (L k hk).1]
      exact f.1 _ (by simpa using c)
  · show mC.2.1 (pq p k) = _
    rw [(L k hk).2.1]
    exact f.2.1 _ (by simp)
  · show mC.2.2.1 (pq p k) = _
    rw [(L k hk).2.2.1]
    exact f.2.2.1 _ (by simp)
  · show mC.2.2.1 23 = _
    rw [h23]
    exact f.2.2.1 _ (by simp)
end
