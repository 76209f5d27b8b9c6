section
variable {Fv : Int64 → Int64 → Prop} {P P2 : Int64 → Prop} {u v w w2 x y : MS} {PR PR2 N p n n2 opM bnM bxM bx2 ND fr k tp mu CN PN SN UN FN rq q m h mm AN z j : Nat} {ow kd ow2 kd2 ro rn rh cb pc ct pM pE : Nat → Nat} {T : TY} {C : CY}
theorem OTF_170 {a : Int} (h1 : -2147483648 ≤ a) (h2 : a < 2147483648) : OTF z u (wa u 170 z a) := by
  have f : FR [] [] [170] [] u (wa u 170 z a) := FR.wa FR.rf (by decide)
  exact ⟨fun y _ => ⟨FR.A f (by decide), FR.A f (by decide), FR.A f (by decide), FR.A f (by decide)⟩, fun i _ => ⟨FR.A f (by decide), FR.A f (by decide), FR.A f (by decide), FR.A f (by decide)⟩, fun i _ => ⟨FR.A f (by decide), FR.A f (by decide), FR.A f (by decide), FR.A f (by decide)⟩, fun i => Or.inl (FR.A f (by decide)), fun i _ => FR.A f (by decide), fun y hy => ⟨by rw [A_eq h1 h2, if_neg hy], FR.A f (by decide), rfl⟩⟩
theorem OTF_96 {a : Int} {i0 : Nat} (h1 : -2147483648 ≤ a) (h2 : a < 2147483648) (h3 : 60 * z ≤ i0 ∧ i0 < 60 * z + 60) : OTF z u (wa u 96 i0 a) := by
  have f : FR [] [] [96] [] u (wa u 96 i0 a) := FR.wa FR.rf (by decide)
  exact ⟨fun y _ => ⟨FR.A f (by decide), FR.A f (by decide), FR.A f (by decide), FR.A f (by decide)⟩, fun i _ => ⟨FR.A f (by decide), FR.A f (by decide), FR.A f (by decide), FR.A f (by decide)⟩, fun i _ => ⟨FR.A f (by decide), FR.A f (by decide), FR.A f (by decide), FR.A f (by decide)⟩, fun i => Or.inl (FR.A f (by decide)), fun i hi => by rw [A_eq h1 h2, if_neg (by omega)], fun y hy => ⟨FR.A f (by decide), FR.A f (by decide), rfl⟩⟩
theorem ERX_grow {as js : List Nat} (e : ERX Fv P PR T C ND CN p u fr ro rn rh cb pc ct q n ow kd opM bnM bxM mu) (hG : tG T q = 0) (hT : ∀ q, q < ND → tK T q ≤ 26) (hz : p ≠ z) (o : OTF z u w) (f : FR [118, 150] [] as js u w) (h23 : 23 ∉ as) (h109 : A w 109 p = 0) (d : DW Fv P2 PR2 w) (hp2 : p < PR2) : ∃ n2 ow2 kd2 bx2, ERX Fv P2 PR2 T C ND CN p w fr ro rn rh cb pc ct q n2 ow2 kd2 opM bnM bx2 mu := by
  obtain ⟨i, h2, h3, h4, h5, h6, h7, h8, h9⟩ := e
  obtain ⟨o1, o2, o3, o4⟩ := o.1 p hz
  obtain ⟨n2, ow2, kd2, bx2, ix⟩ := MEX_of (opM := opM) (bnM := bnM) d hp2 (by rw [FR.F f (by decide)]; exact i.2.2.1) (by rw [o1]; exact i.2.2.2.2.2.2.2.2.2.1.1) (by rw [o2]; exact i.2.2.2.2.2.2.2.2.2.2.1.1)
  refine ⟨n2, ow2, kd2, bx2, MEX_i ix (by omega), FRS_otf h2 hz (hT q h3) o (fun i => FR.A f h23), h3, h4, by rw [o4]; exact h5, h109, h7, h8, ?_⟩
  rcases h9 with ⟨y1, y2, y3⟩ | ⟨y1, c, s, many, hg, hb', mm', r, t1, t2, -⟩
  · refine Or.inl ⟨y1, by rw [FR.F f (by decide)]; exact y2, ?_⟩
    unfold CLG; rw [FR.F f (by decide), FR.F f (by decide)]; exact y3
  · omega
theorem WLD_grow (hw : WLD u T ND UN FN PR p) (hT : ∀ q, q < ND → tK T q ≤ 26) (hpr : PR < 24) (o : OTF PR u w) (hk : ∀ k, k ∈ KP → ∀ i, A w k i = A u k i) (h109 : ∀ y, y ≠ PR → A w 109 y = A u 109 y) (h116 : ∀ i, A w 116 i = A u 116 i) (h117 : ∀ y, A w 117 y = if y = PR then 0 else A u 117 y) (h125 : F w 125 = F u 125) (h123 : ∀ i, A w 123 i = A u 123 i) (h124 : ∀ i, A w 124 i = A u 124 i) (h128 : F w 128 = F u 128) (h127 : ∀ i, A w 127 i = A u 127 i) (h132 : ∀ y, A w 132 y = if y = PR then 0 else A u 132 y) (new : PSX w T ND UN FN PR) : WLD w T ND UN FN (PR + 1) p := by
  obtain ⟨⟨l1, l2⟩, ⟨t1, t2, t3⟩, h3, h4, h5, h6, h7⟩ := hw
  have inn : ∀ a b, a ≠ PR → (inL w a b ↔ inL u a b) := fun a b ha => by
    constructor
    · rintro ⟨k, k1, k2⟩; rw [h117, if_neg ha] at k1; rw [h116] at k2; exact ⟨k, k1, k2⟩
    · rintro ⟨k, k1, k2⟩; exact ⟨k, by rw [h117, if_neg ha]; exact k1, by rw [h116]; exact k2⟩
  have noP : ∀ b, ¬ inL w PR b := fun b ⟨k, k1, k2⟩ => by rw [h117, if_pos rfl] at k1; omega
  refine ⟨⟨fun a ha => ?_, fun a b ha hb hab => ?_⟩, ⟨by rw [h125]; exact t1, by rw [h125]; exact t2, fun i hi => ?_⟩, by rw [h128]; exact h3, fun i => by rw [h127]; exact h4 i, fun i => ?_, fun i => ?_, fun y hy hyp => ?_⟩
  · by_cases e : a = PR
    · subst e
      have z7 : A w 117 a = 0 := by rw [h117, if_pos rfl]
      exact ⟨by omega, by omega, fun k hk' => by omega, fun k j hk' hj => by omega⟩
    · obtain ⟨r1, r2, r3, r4⟩ := l1 a (by omega)
      unfold LKR
      rw [h117, if_neg e]
      refine ⟨r1, r2, fun k hk' => ?_, fun k j hk' hj => ?_⟩
      · rw [h116]; have := r3 k hk'; omega
      · rw [h116, h116]; exact r4 k j hk' hj
  · by_cases e : a = PR
    · subst e; exact absurd hab (noP b)
    · have hab' := (inn a b e).mp hab
      by_cases eb : b = PR
      · subst eb
        obtain ⟨k, k1, k2⟩ := hab'
        have := (l1 a (by omega)).2.2.1 k k1
        omega
      · exact (inn b a eb).mpr (l2 a b (by omega) (by omega) hab')
  · rw [h125] at hi
    rw [h123, h124]
    have := t3 i hi
    omega
  · rcases o.2.2.2.1 i with e | e
    · rw [e]; exact h5 i
    · exact e
  · rw [h132]
    by_cases e : i = PR
    · rw [if_pos e]; omega
    · rw [if_neg e]; exact h6 i
  · by_cases e : y = PR
    · rw [e]; exact new
    · exact PSX_otf (h7 y (by omega) hyp) e hT o hk (Or.inl (h109 y e))
def SPF (u w : MS) : Prop := FR [118, 150] [] [89, 90, 92, 94, 95, 96, 97, 98, 99, 100, 101, 106, 108, 109, 110, 112, 113, 114, 115, 117, 132, 142, 145, 146, 147, 170] [88, 93, 111, 141, 148] u w
def SPR (PR : Nat) (u w : MS) : Prop := SPF u w ∧ OTF PR u w ∧ (∀ y, y ≠ PR → A w 109 y = A u 109 y) ∧ (∀ y, A w 117 y = if y = PR then 0 else A u 117 y) ∧ (∀ y, A w 132 y = if y = PR then 0 else A u 132 y)
theorem SPR.tr {is ls as js : List Nat} (s : SPR PR u v) (f : FR is ls as js v w) (o : OTF PR v w) (h1 : ∀ k, k ∈ is → k ∈ [118, 150]) (h2 : ∀ k, k ∈ ls → k ∈ []) (h3 : ∀ k, k ∈ as → k ∈ [89, 90, 92, 94, 95, 96, 97, 98, 99, 100, 101, 106, 108, 109, 110, 112, 113, 114, 115, 117, 132, 142, 145, 146, 147, 170]) (h4 : ∀ k, k ∈ js → k ∈ [88, 93, 111, 141, 148]) (h117 : 117 ∉ as) (h132 : 132 ∉ as) (h109 : ∀ y, y ≠ PR → A w 109 y = A v 109 y) : SPR PR u w := by
  obtain ⟨s1, s2, s3, s4, s5⟩ := s
  exact ⟨FR.tr s1 (FR.mo f h1 h2 h3 h4), OTF.tr s2 o, fun y hy => by rw [h109 y hy, s3 y hy], fun y => by rw [FR.A f h117]; exact s4 y, fun y => by rw [FR.A f h132]; exact s5 y⟩
theorem SPR_np : SPR PR u (npS u PR) := ⟨FR.mo np_fr (by decide) (by decide) (by decide) (by decide), np_otf, fun y hy => by rw [np_109, if_neg hy], fun y => np_row (by decide), fun y => np_row (by decide)⟩
theorem sp286 {G : MS → Int32 → Int64 → Int32 → Int32 → Option (MS × Unit)} (e : ERX Fv (PQ AN PR) PR T C ND CN p u fr ro rn rh cb pc ct q n ow kd (ro (fr - 1) + tH T q) (rn (fr - 1) + rh (fr - 1) + tM T q) bxM mu) (hAN : 22 ≤ AN) (hw : WLD u T ND UN FN PR p) (hT : ∀ q, q < ND → tK T q ≤ 26) (hH : tH T q ≤ 760) (hG : tG T q = 0) (hq : tB T q + 1 ≤ tH T q) (hm : m < ND) (hx : NX T q m (tH T q) (tM T q)) (h98 : A u 98 (60 * p + (fr - 1)) = ((m : Nat) : Int)) (hpr : PR < 24) (s : SPR PR u w) (d : DW Fv (PQ AN (PR + 1)) (PR + 1) w) (new : PSX w T ND UN FN PR) : OK (fun v _ => RSW Fv AN T C ND CN UN FN p mu u v) (fb_M_spawnRun_286 N G w (I PR)) := by
  have hf := e.2.1.1
  have hro := (e.2.1.2.2.1 (fr - 1) (by omega)).2.2.2.2.1
  have pp := e.1.2.1
  have x4 := MEI_p e.1
  have hne : p ≠ PR := by omega
  obtain ⟨s1, s2, s3, s4, s5⟩ := s
  obtain ⟨n2, ow2, kd2, bx2, ew⟩ := ERX_grow e hG hT hne s2 s1 (by decide) (by rw [s3 p hne]; exact e.2.2.2.2.2.1) d (by omega)
  have ww : WLD w T ND UN FN (PR + 1) p := WLD_grow hw hT hpr s2 (fun k hk i => FR.A s1 (by revert hk; unfold KP; simp; omega)) s3 (fun i => FR.A s1 (by decide)) s4 (FR.F s1 (by decide)) (fun i => FR.A s1 (by decide)) (fun i => FR.A s1 (by decide)) (FR.F s1 (by decide)) (fun i => FR.A s1 (by decide)) s5 new
  have g0 : GFR u w := FR.mo s1 (by decide) (by decide) (by decide) (by decide)
  have w98 : A w 98 (60 * p + (fr - 1)) = ((m : Nat) : Int) := by rw [(s2.2.1 _ (by omega)).1]; exact h98
  rw [show ro (fr - 1) + tH T q = ro (fr - 1) + (tH T q - 1) + 1 from by omega] at ew
  unfold fb_M_spawnRun_286
  refine ok_bnd.mpr (ok_mono (takeE (N := N) ew (by omega)) (fun v r hv => ?_))
  obtain ⟨v1, v2, v3, v4⟩ := hv
  rw [show (4 : Int32) = I 4 from rfl, term_e, bnd_so]
  refine ok_bnd.mpr (ok_mono (putR (N := N) v1 hm hx (by rw [FR.A v3 (by decide)]; exact w98) (by omega) rfl (Or.inl ⟨nh_mk (by omega), (PQ_b hAN (by omega)).2.1 PR (by omega)⟩) (by omega)) (fun y _ hy => ok_some.mpr ?_))
  exact RSW.pre g0 (RES_via v3 v4 hy ww hT (by omega) (by decide) (by decide) (by decide) (by decide) (by decide) (by decide))
end
