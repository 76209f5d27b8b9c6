/-! the world while one goes -/
set_option maxRecDepth 100000
/-- of the one that goes nothing is told -/
def RRt (p q : Nat) (m w : MS) : Prop := q = p ∨ WTr q m w
/-- numbers of the machine: there, here -/
def RGm (m m2 : MS) : Prop := FR [1105, 1106, 1107, 1108, 1109, 1111, 1112, 1113, 1114] [1110] [] [] m m2
def RGw (w w2 : MS) : Prop := FR [133, 151, 152, 153, 154, 155, 156, 157, 158, 159, 164, 165] [] [] [] w w2
section
variable {b : Int → Nat → Nat → Prop} {Fv Fv' : Int64 → Int64 → Prop} {P P' : Int64 → Prop} {N PR q r p i j jj d U B W Y a n : Nat} {m w m2 w2 : MS} {t x : Int64} {cur : Option Nat} {RR R2 : Nat → MS → MS → Prop} {nb : Nat → Nat} {Hs Os : Nat → List Nat} {y : Option (Nat × Nat × Nat)}
theorem RRt_st (h : RRt p q m w) (h1 : EQn q m m2) (h2 : EQv q w w2) : RRt p q m2 w2 := by
  rcases h with h | h
  · exact Or.inl h
  · exact Or.inr (WTr_st h h1 h2)
theorem RRt_stb : STBl (RRt p) := fun _ _ _ _ _ h h1 h2 _ => RRt_st h h1 h2
theorem WL_mono (W : WLs RR PR Fv P Fv' P' cur i j m w) (h : ∀ q, RR q m w → R2 q m w) (s : STBl R2) : WLs R2 PR Fv P Fv' P' cur i j m w := by
  obtain ⟨sf, qu, pr, -⟩ := W
  refine ⟨sf, qu, fun r hr => ?_, s⟩
  rcases pr r hr with ⟨x1, x2, b, U, B, W, Y, pl, sc, rr⟩ | x
  · exact Or.inl ⟨x1, x2, b, U, B, W, Y, pl, sc, h r rr⟩
  · exact Or.inr x
theorem WL_t (W : WLs (RRp p) PR Fv P Fv' P' cur i j m w) : WLs (RRt p) PR Fv P Fv' P' cur i j m w := WL_mono W (fun q h => by
  rcases h with h | h
  · exact Or.inl h.1
  · exact Or.inr h.2) RRt_stb
theorem EQn_loc (pg : PG0 m w m2 w2) (h1 : LOCm r m m2) (h2 : LOCw r w w2) : EQn r m m2 ∧ EQv r w w2 := ⟨(EQm_loc pg h1).n, (EQw_loc pg h2).v⟩
/-- the numbers of the machine change -/
theorem WL_reg (W : WLs (RRt p) PR Fv P Fv' P' cur i j m w) (f : RGm m m2) (g : RGw w w2) : WLs (RRt p) PR Fv P Fv' P' cur i j m2 w2 := by
  have W0 := W
  obtain ⟨⟨⟨d, cx⟩, ⟨dw, lk, wt⟩, pb⟩, -, -, -⟩ := W
  have lm : ∀ d, LOCm d m m2 := fun d k hk => ⟨f.1 _ (by simp; unfold pq; omega), f.2.1 _ (by simp; unfold pq; omega), f.2.2.1 _ (by simp), f.2.2.2 _ (by simp)⟩
  have lw : ∀ d, LOCw d w w2 := LOCw_fr g (by simp) (by simp)
  have pg : PG0 m w m2 w2 := PG0_fr f g (by simp) (by simp) (by simp) (by simp) (by simp)
  have fc : FC 0 [1105, 1106, 1107, 1108, 1109, 1111, 1112, 1113, 1114] [1110] [] [] [] [] [] m m2 := FC.of f (by simp) (by simp) (by simp) (by simp)
  have d2 : DWc Fv P PR m2 := DWc_gl d fc (by simp) (by simp) (fun h0 => by
    have := (d.2 0 h0).1
    unfold SMQ at this ⊢
    rw [fc.Fq (by omega) (by simp), fc.Fq (by omega) (by simp), fc.Fq (by omega) (by simp), fc.Fq (by omega) (by simp)]
    exact this) (by simp) (by rw [fc.Fg (by omega) (by simp)]; exact d.1.2.2.1) (by rw [fc.Fg (by omega) (by simp)]; exact ⟨d.1.2.2.2.1.2.1, d.1.2.2.2.1.2.2⟩) (by simp)
  have s2 : SFs Fv P Fv' P' PR m2 w2 := ⟨⟨d2, CTX_fr cx (f.1 22 (by simp)) (f.2.2.1 3 (by simp))⟩, ⟨DW_fr dw g (by simp) (by simp) (by simp) (by simp) (by simp) (by simp) (by simp) (by simp) (by simp) (by simp) (by simp) (by simp) (by simp) (by simp) (by simp) (by simp) (by simp), LK_fr lk g (by simp) (by simp), WTQ_fr wt g (by simp) (by simp) (by simp)⟩, pb⟩
  have f9 : ∀ d, F m2 (pq d 9) = F m (pq d 9) := fun d => congrArg Int32.toInt (lm d 9 (by omega)).1
  have a9 : ∀ d, A w2 109 d = A w 109 d := fun d => FR.A g (by simp)
  refine WL_gen W0 s2 (fun d hd => ⟨by rw [f9]; exact hd, (lm d 2 (by omega)).2.2.2, (lm d 17 (by omega)).1, (lm d 16 (by omega)).2.1⟩) (fun d _ => ⟨fun i hi => (lw d).2.2.2.2.1 _ (by omega) (by omega), FR.A g (by simp)⟩) (fun d hd => by rw [a9]; exact hd) (fun d _ _ _ h => QEs_st h (lm d) (lw d)) (fun d _ _ h => DEs_st h pg (lm d) (lw d) (fun d hd => ⟨by rw [f9]; exact hd, (lm d 2 (by omega)).2.2.2⟩)) (fun d hd x1 x2 x3 => Or.inl ⟨by rw [f9]; exact x1, by rw [a9]; exact x2, ?_⟩) ?_
  · obtain ⟨b, U, B, W, Y, pl, sc, rr⟩ := x3
    obtain ⟨-, -, ⟨b1, b2, b3⟩, b4⟩ := SF_al W0.1 hd x1 pl
    have hU := pl.1.1.2.2
    refine ⟨b, U, B, W, Y, PLs_cg pl (fun k hk => (lm d k (by simp at hk; omega)).1) (fun i _ => by rw [(lm d 2 (by omega)).2.2.2]) (fun i _ => by rw [(lm d 33 (by omega)).2.2.2]) (fun i _ => by rw [(lm d 35 (by omega)).2.2.2]) (fun i _ => by rw [(lm d 6 (by omega)).2.2.2]) (fun k hk => by rw [g.2.2.1 k (by simp)]) (fun i _ => by rw [g.2.2.2 88 (by simp)]) (fun i _ => by rw [g.2.2.2 93 (by simp)]) (fun i _ => by rw [g.2.2.2 91 (by simp)]) (fun i _ => by rw [g.2.2.2 107 (by simp)]), SC_eq sc b4.2 (EQm_loc pg (lm d)) (EQw_loc pg (lw d)), RRt_st rr (EQm_loc pg (lm d)).n (EQw_loc pg (lw d)).v⟩
  · obtain ⟨n, q1, q2, -⟩ := W0.2.1
    exact ⟨i + n, j + n, q1, q2, fun k _ => FR.A f (by simp), fun k _ => ⟨fun K hK => FR.A g (by simp), by rw [g.2.2.2 148 (by simp)]⟩, Or.inl ⟨by rw [FR.F f (by simp)]; exact q1, by rw [FR.F g (by simp)]; exact q2⟩⟩
theorem SC_fg (s : SCs p m w) (f : FGm p m m2) (g : FGw p jj w w2) : SCs p m2 w2 := by
  obtain ⟨s1, s2, s3, s4, s5, s6⟩ := s
  have i1 : ∀ k, k < 100 → k ≠ 4 → k ≠ 5 → k ≠ 26 → k ≠ 45 → m2.1 (pq p k) = m.1 (pq p k) := fun k h0 h1 h2 h3 h4 => f.1 _ (by
    simp only [List.mem_cons, List.not_mem_nil, or_false]
    intro c
    rcases c with c | c | c | c | c
    · exact pq_inj h1 c
    · exact pq_inj h2 c
    · exact pq_inj h3 c
    · exact pq_inj h4 c
    · exact pq_n (by omega) c.symm)
  have aw : ∀ K, 112 ≤ K → K ≤ 117 → w2.2.2.1 K = w.2.2.1 K := fun K h1 h2 => g.1.2.2.1 K (by simp; omega)
  refine ⟨?_, ?_, ?_, ?_, ?_, fun i hi => ?_⟩
  · rw [i1 12 (by omega) (by omega) (by omega) (by omega) (by omega), aw 113 (by omega) (by omega)]; exact s1
  · rw [i1 13 (by omega) (by omega) (by omega) (by omega) (by omega), aw 114 (by omega) (by omega)]; exact s2
  · rw [i1 11 (by omega) (by omega) (by omega) (by omega) (by omega), aw 112 (by omega) (by omega)]; exact s3
  · rw [i1 15 (by omega) (by omega) (by omega) (by omega) (by omega), aw 117 (by omega) (by omega)]; exact s4
  · rw [i1 29 (by omega) (by omega) (by omega) (by omega) (by omega), aw 115 (by omega) (by omega)]; exact s5
  · have e : F m2 (pq p 15) = F m (pq p 15) := congrArg Int32.toInt (i1 15 (by omega) (by omega) (by omega) (by omega) (by omega))
    rw [e] at hi
    rw [f.2.2.1 _ (by simp), aw 116 (by omega) (by omega)]
    exact s6 i hi
/-- behind a step -/
theorem WL_run (wl : WLs (RRt p) PR Fv P Fv' P' cur i j m w) (hc : ∀ c, cur = some c → F m (pq c 9) = 3) (hp : p < PR) (hal : F m (pq p 9) ≠ 3) (h9 : A w 109 p ≠ 3) (hj : jj < 60) (s2 : SFs Fv P Fv' P' PR m2 w2) (f : FGm p m m2) (g : FGw p jj w w2) (pl : PLs b p m2 w2 U B W Y) (ru : RUs m2 w2 p jj nb Hs Os y a n) : WLs (RRp p) PR Fv P Fv' P' cur i j m2 w2 := by
  have p24 := wl.1.2.1.1.1.2
  have D : ∀ d, d ≠ p → LOCm d m m2 ∧ LOCw d w w2 := fun d hd => FG_loc f g hj hd
  have pg : PG0 m w m2 w2 := PG0_fr f g.1 (fun k hk => by simp at hk; unfold pq at hk; omega) (by simp) (fun k hk => by simp at hk; omega) (fun k hk => by simp at hk; unfold PRr; omega) (by simp)
  have sc : SCs p m w := by
    rcases wl.2.2.1 p hp with h | h
    · obtain ⟨-, -, b, U, B, W, Y, pl, sc, rr⟩ := h
      exact sc
    · exact absurd h.1 hal
  have W2 : WLs (RRt p) PR Fv P Fv' P' cur i j m w := wl
  have dq : ∀ d, F m (pq d 9) = 3 → d ≠ p := fun d hd c => hal (by rw [← c]; exact hd)
  have dq2 : ∀ d, d = 24 ∨ A w 109 d = 3 → d ≠ p := fun d hd c => by
    rcases hd with hd | hd
    · omega
    · exact h9 (by rw [← c]; exact hd)
  have f9 : ∀ d, d ≠ p → F m2 (pq d 9) = F m (pq d 9) := fun d hd => congrArg Int32.toInt ((D d hd).1 9 (by omega)).1
  have a9 : ∀ d, d ≠ p → A w2 109 d = A w 109 d := fun d hd => congrArg Int32.toInt ((D d hd).2.1 109 d (Or.inl ⟨by omega, rfl⟩))
  have dm : ∀ d, F m (pq d 9) = 3 → F m2 (pq d 9) = 3 ∧ m2.2.2.2 (pq d 2) = m.2.2.2 (pq d 2) ∧ m2.1 (pq d 17) = m.1 (pq d 17) ∧ m2.2.1 (pq d 16) = m.2.1 (pq d 16) := fun d hd => ⟨by rw [f9 d (dq d hd)]; exact hd, ((D d (dq d hd)).1 2 (by omega)).2.2.2, ((D d (dq d hd)).1 17 (by omega)).1, ((D d (dq d hd)).1 16 (by omega)).2.1⟩
  have rp : RUs m2 w2 p jj nb Hs Os y a n := ru
  have W3 : WLs (RRt p) PR Fv P Fv' P' cur i j m2 w2 := by
    refine WL_gen W2 s2 dm (fun d hd => ⟨fun i hi => (D d (dq2 d hd)).2.2.2.2.2.1 _ (by omega) (by omega), congrArg Int32.toInt ((D d (dq2 d hd)).2.2.1 89 (by omega))⟩) (fun d hd => by rw [a9 d (dq2 d (Or.inr hd))]; exact hd) (fun r _ hr _ h => QEs_st h (D r (dq r hr)).1 (D r (dq r hr)).2) (fun r _ _ h => DEs_st h pg (D r (dq r h.1)).1 (D r (dq r h.1)).2 (fun d hd => ⟨(dm d hd).1, (dm d hd).2.1⟩)) (fun r hr x1 x2 x3 => ?_) ?_
    · by_cases rq : r = p
      · subst rq
        exact Or.inl ⟨by rw [ru.2.2.2.1.1]; omega, by rw [ru.2.2.2.1.2]; omega, b, U, B, W, Y, pl, SC_fg sc f g, Or.inl rfl⟩
      · obtain ⟨b, U, B, W, Y, pl, sc, rr⟩ := x3
        obtain ⟨-, -, ⟨b1, b2, b3⟩, b4⟩ := SF_al W2.1 hr x1 pl
        have hU := pl.1.1.2.2
        obtain ⟨l1, l2⟩ := D r rq
        refine Or.inl ⟨by rw [f9 r rq]; exact x1, by rw [a9 r rq]; exact x2, b, U, B, W, Y, PLs_cg pl (fun k hk => (l1 k (by simp at hk; omega)).1) (fun i _ => by rw [(l1 2 (by omega)).2.2.2]) (fun i _ => by rw [(l1 33 (by omega)).2.2.2]) (fun i _ => by rw [(l1 35 (by omega)).2.2.2]) (fun i _ => by rw [(l1 6 (by omega)).2.2.2]) (fun k hk => ?_) (fun i hi => l2.2.2.2.2.1 _ (by omega) (by omega)) (fun i hi => l2.2.2.2.2.2.2.1 _ (by omega) (by omega)) (fun i hi => l2.2.2.2.2.2.1 _ (by omega) (by omega)) (fun i hi => l2.2.2.2.2.2.2.2 _ (by omega) (by omega)), SC_eq sc b4.2 (EQm_loc pg l1) (EQw_loc pg l2), RRt_st rr (EQm_loc pg l1).n (EQw_loc pg l2).v⟩
        simp only [List.mem_cons, List.not_mem_nil, or_false] at hk
        rcases hk with rfl | rfl | rfl | rfl | rfl
        · exact l2.2.1 89 (by omega)
        · exact l2.2.1 90 (by omega)
        · exact l2.1 92 r (Or.inl ⟨by omega, rfl⟩)
        · exact l2.1 94 r (Or.inl ⟨by omega, rfl⟩)
        · exact l2.2.1 108 (by omega)
    · obtain ⟨n, q1, q2, -⟩ := W2.2.1
      exact ⟨i + n, j + n, q1, q2, fun k _ => FR.A f (by simp), fun k _ => ⟨fun K hK => FR.A g.1 (by simp; omega), by rw [g.1.2.2.2 148 (by simp)]⟩, Or.inl ⟨by rw [FR.F f (by simp [pq_n])]; exact q1, by rw [FR.F g.1 (by simp)]; exact q2⟩⟩
  obtain ⟨sf, qu, pr, -⟩ := W3
  refine ⟨sf, qu, fun r hr => ?_, RRp_stb⟩
  rcases pr r hr with ⟨x1, x2, b', U', B', W', Y', pl', sc', rr⟩ | x
  · by_cases rq : r = p
    · subst rq
      exact Or.inl ⟨x1, x2, b', U', B', W', Y', pl', sc', Or.inl ⟨rfl, jj, nb, Hs, Os, y, a, n, ru⟩⟩
    · rcases rr with rr | rr
      · exact absurd rr rq
      · exact Or.inl ⟨x1, x2, b', U', B', W', Y', pl', sc', Or.inr ⟨rq, rr⟩⟩
  · exact Or.inr x
end
