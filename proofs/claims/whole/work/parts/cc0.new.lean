/-! one process more: the world; what is known of one that was just born -/
set_option maxRecDepth 100000
section
variable {b : Int → Nat → Nat → Prop} {Fv Fv' : Int64 → Int64 → Prop} {P P' P2 : Int64 → Prop} {N PR q r p i j jj U B W Y a n : Nat} {m w m2 w2 : MS} {nb : Nat → Nat} {Hs Os : Nat → List Nat} {y : Option (Nat × Nat × Nat)}
theorem RZs_st2 (h : RZs m w r) (pg : PG0 m w m2 w2) (h1 : m2.1 (pq r 17) = m.1 (pq r 17)) (h2 : m2.2.1 (pq r 16) = m.2.1 (pq r 16)) (h3 : ∀ d, rf (m.1 (pq r 17)) = some d → F m (pq d 9) = 3 → F m2 (pq d 9) = 3 ∧ m2.2.2.2 (pq d 2) = m.2.2.2 (pq d 2)) (h4 : w2.2.2.1 132 r = w.2.2.1 132 r) (h5 : ∀ i, 100 * r ≤ i → i < 100 * r + 100 → w2.2.2.1 131 i = w.2.2.1 131 i) : RZs m2 w2 r := by
  obtain ⟨hm, k, z, g1, g2, g3, g4, g5, g6, g7⟩ := h
  obtain ⟨⟨-, p2, p3⟩, -⟩ := pg
  have e22 : F m2 22 = F m 22 := congrArg Int32.toInt p2
  have hh := h3 hm g1 g3
  refine ⟨hm, k, z, by rw [h1]; exact g1, g2, hh.1, by rw [hh.2, e22, h2]; exact g4, g5, ?_, fun i hi => ?_⟩
  · show (w2.2.2.1 132 r).toInt = _
    rw [h4, hh.2, h2, p3]
    exact g6
  · rw [hh.2, h2, p3] at hi ⊢
    rw [h5 _ (by omega) (by omega)]
    exact g7 i hi
theorem DEs_st2 (h : DEs m w r) (pg : PG0 m w m2 w2) (h1 : LOCm r m m2) (h2 : LOCw r w w2) (h3 : ∀ d, rf (m.1 (pq r 17)) = some d → F m (pq d 9) = 3 → F m2 (pq d 9) = 3 ∧ m2.2.2.2 (pq d 2) = m.2.2.2 (pq d 2)) : DEs m2 w2 r := by
  obtain ⟨a1, a2, a3, ⟨a4, a5⟩, a6, a7, a8, a9⟩ := h
  refine ⟨by show (m2.1 (pq r 9)).toInt = _; rw [(h1 9 (by omega)).1]; exact a1, by show (w2.2.2.1 109 r).toInt = _; rw [h2.1 109 r (Or.inl ⟨by omega, rfl⟩)]; exact a2, RZs_st2 a3 pg (h1 17 (by omega)).1 (h1 16 (by omega)).2.1 h3 (h2.2.1 132 (by omega)) h2.2.2.1, ⟨by rw [(h1 12 (by omega)).1]; exact a4, by rw [h2.1 113 r (Or.inl ⟨by omega, rfl⟩)]; exact a5⟩, by rw [(h1 13 (by omega)).1, h2.1 114 r (Or.inl ⟨by omega, rfl⟩)]; exact a6, by rw [(h1 5 (by omega)).1, h2.2.1 90 (by omega)]; exact a7, by show (m2.1 (pq r 15)).toInt = _; rw [(h1 15 (by omega)).1]; exact a8, by show (w2.2.2.1 117 r).toInt = _; rw [h2.1 117 r (Or.inl ⟨by omega, rfl⟩)]; exact a9⟩
/-- the world behind a step of p that makes one process more -/
theorem WL_new (wl : WLs (RRt p) PR Fv P Fv' P' none i j m w) (hal : F m (pq p 9) ≠ 3) (hq : F m 955 = ((i : Nat) : Int)) (s2 : SFs Fv P Fv' P2 (PR + 1) m2 w2) (D : ∀ d, d ≠ p → d ≠ PR → LOCm d m m2 ∧ LOCw d w w2) (pg : PG0 m w m2 w2) (e1 : F m2 955 = F m 955) (e2 : F w2 150 = F w 150) (pl : PLs b p m2 w2 U B W Y) (sc2 : SCs p m2 w2) (ru : RUs m2 w2 p jj nb Hs Os y a n) (hpp : p < PR) (n9 : F m2 (pq PR 9) ≠ 3 ∧ A w2 109 PR ≠ 3) (nal : ∃ b U B W Y, PLs b PR m2 w2 U B W Y ∧ SCs PR m2 w2 ∧ WTr PR m2 w2) : WLs (RRp p) (PR + 1) Fv P Fv' P2 none i j m2 w2 := by
  obtain ⟨sf, ⟨n0, q1, q2, -, -⟩, pr, -⟩ := id wl
  have hn0 : n0 = 0 := by
    rw [hq] at q1
    omega
  subst hn0
  have f9 : ∀ d, d ≠ p → d ≠ PR → F m2 (pq d 9) = F m (pq d 9) := fun d hd h2 => congrArg Int32.toInt ((D d hd h2).1 9 (by omega)).1
  have a9 : ∀ d, d ≠ p → d ≠ PR → A w2 109 d = A w 109 d := fun d hd h2 => congrArg Int32.toInt ((D d hd h2).2.1 109 d (Or.inl ⟨by omega, rfl⟩))
  refine ⟨s2, ⟨0, by rw [e1]; exact q1, by rw [e2]; exact q2, fun k hk => absurd hk (by omega), fun k l hk => absurd hk (by omega)⟩, fun r hr => ?_, RRp_stb⟩
  by_cases rn : r = PR
  · subst rn
    obtain ⟨b', U', B', W', Y', x1, x2, x3⟩ := nal
    exact Or.inl ⟨n9.1, n9.2, b', U', B', W', Y', x1, x2, Or.inr ⟨by omega, x3⟩⟩
  by_cases rq : r = p
  · subst rq
    exact Or.inl ⟨by rw [ru.2.2.2.1.1]; omega, by rw [ru.2.2.2.1.2]; omega, b, U, B, W, Y, pl, sc2, Or.inl ⟨rfl, jj, nb, Hs, Os, y, a, n, ru⟩⟩
  obtain ⟨l1, l2⟩ := D r rq rn
  have hr2 : r < PR := by omega
  rcases pr r hr2 with ⟨x1, x2, b', U', B', W', Y', pl', sc', rr⟩ | ⟨x1, x2, x⟩
  · obtain ⟨-, -, ⟨b1, b2, b3⟩, b4⟩ := SF_al sf hr2 x1 pl'
    have hU := pl'.1.1.2.2
    have rr2 : WTr r m w := by
      rcases rr with rr | rr
      · exact absurd rr rq
      · exact rr
    refine Or.inl ⟨by rw [f9 r rq rn]; exact x1, by rw [a9 r rq rn]; exact x2, b', U', B', W', Y', PLs_cg pl' (fun k hk => (l1 k (by simp at hk; omega)).1) (fun i _ => by rw [(l1 2 (by omega)).2.2.2]) (fun i _ => by rw [(l1 33 (by omega)).2.2.2]) (fun i _ => by rw [(l1 35 (by omega)).2.2.2]) (fun i _ => by rw [(l1 6 (by omega)).2.2.2]) (fun k hk => ?_) (fun i hi => l2.2.2.2.2.1 _ (by omega) (by omega)) (fun i hi => l2.2.2.2.2.2.2.1 _ (by omega) (by omega)) (fun i hi => l2.2.2.2.2.2.1 _ (by omega) (by omega)) (fun i hi => l2.2.2.2.2.2.2.2 _ (by omega) (by omega)), SC_eq sc' b4.2 (EQm_loc pg l1) (EQw_loc pg l2), Or.inr ⟨rq, WTr_st rr2 (EQm_loc pg l1).n (EQw_loc pg l2).v⟩⟩
    simp only [List.mem_cons, List.not_mem_nil, or_false] at hk
    rcases hk with rfl | rfl | rfl | rfl | rfl
    · exact l2.2.1 89 (by omega)
    · exact l2.2.1 90 (by omega)
    · exact l2.1 92 r (Or.inl ⟨by omega, rfl⟩)
    · exact l2.1 94 r (Or.inl ⟨by omega, rfl⟩)
    · exact l2.2.1 108 (by omega)
  · refine Or.inr ⟨by rw [f9 r rq rn]; exact x1, by rw [a9 r rq rn]; exact x2, Or.inr (Or.inr ?_)⟩
    rcases x with x | ⟨k, k1, k2, -⟩ | x
    · cases x
    · rw [hq] at k2
      omega
    · obtain ⟨hq2, n', ow, kd, e1', e2', -⟩ := (sf.1.1.2 r hr2).2.1 x1
      refine DEs_st2 x pg l1 l2 (fun d hd h3 => ?_)
      rw [e1'] at hd
      injection hd with hd
      have dp : d ≠ p := fun c => hal (by rw [← c]; exact h3)
      have dn : d ≠ PR := by omega
      exact ⟨by rw [f9 d dp dn]; exact h3, ((D d dp dn).1 2 (by omega)).2.2.2⟩
/-- more of one that was just born -/
theorem born_v : PK (fun m2 r => ∀ j, r = some j → m2.1 (pq j 11) = 0 ∧ m2.1 (pq j 12) = -1 ∧ m2.1 (pq j 29) = 0 ∧ m2.1 (pq j 13) = 0 ∧ m2.1 (pq j 15) = 0 ∧ m2.1 (pq j 5) = 0) (hm_Wl_born N m) := by
  have k43 : ∀ u, PK (fun m2 r => ∀ j, r = some j → m2.1 (pq j 11) = 0 ∧ m2.1 (pq j 12) = -1 ∧ m2.1 (pq j 29) = 0 ∧ m2.1 (pq j 13) = 0 ∧ m2.1 (pq j 15) = 0 ∧ m2.1 (pq j 5) = 0) (hb_Wl_born_43 N () u) := fun u => by
    unfold hb_Wl_born_43
    refine pk_ck (fun _ => ?_)
    cases h : rf (u.2.2.1 1948 (u.1 942).toNatClampNeg) with
    | none => exact fun _ _ e => by cases e
    | some d =>
      intro m2 r e j ej
      unfold hm_Pr_clear hb_Pr_clear_0 hm_Fr_clear hb_Fr_clear_0 at e
      simp only [bo_s, lt_e, bnd_so] at e
      injection e with e
      injection e with ea eb
      subst eb
      injection ej with ej
      subst ej
      subst ea
      refine ⟨?_, ?_, ?_, ?_, ?_, ?_⟩ <;> simp [upI, upL, pq] <;> omega
  unfold hm_Wl_born hb_Wl_born_0
  refine pk_br (fun _ => pk_ck (fun _ => pk_br (fun _ => pk_lt (k43 _)) (fun _ => k43 _))) (fun _ => ?_)
  intro m2 r e j ej
  injection e with e
  injection e with ea eb
  subst eb
  cases ej
end
