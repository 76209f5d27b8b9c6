set_option maxRecDepth 100000
def HKm (u : MS) (Hk : List (Nat × Nat × Int)) (h m : Nat) (L : List Nat) (g x : Nat) : List (Nat × Tyc) := Hk.map (fun e => (e.1, (h + (e.2.1 + 1), m + (e.2.2 - F u 706).toNat, L, g, x)))
def SGH (u v : MS) (lv lo q r o s : Nat) (Hk : List (Nat × Nat × Int)) : Prop := (∀ e, e ∈ Hk → A v 23 e.1 = 0 ∧ szc u ≤ e.1 ∧ e.1 < szc v) ∧ (Hk.map (fun e => e.1)).Nodup ∧ ∀ h m L g x, PREc u v lv lo o False h m L g x → (g ≠ 0 → F v 706 = F u 706) ∧ SGc v (szc u) (szc v) q r (HKm u Hk h m L g x) h h m L g x (some (h + s, m + knc u v, L, g, x))
def HL (aa oo : Option Nat) (pa pb : Nat) (ka kb : Int) : List (Nat × Nat × Int) := (match aa with
  | none => []
  | some sa => [(pa, sa, ka)]) ++ (match oo with
  | none => []
  | some sb => [(pb, sb, kb)])
def evc (aa : Option Nat) : Int := match aa with
  | none => 0
  | some _ => 1
section
variable {u v w : MS} {N lv t hi lo o q r s c h m g x d a b k n f Q q2 q3 p : Nat} {ps : Nat → Nat} {S : SF_Cm_fun} {W W2 ka cc : Int} {Z : Prop} {L : List Nat} {H H2 : List (Nat × Tyc)} {z : Nat} {oo : Option Tyc} {Hk : List (Nat × Nat × Int)}
theorem SG_pm (hm : ∀ p t, (p, t) ∈ H ↔ (p, t) ∈ H2) (y : SGc u a b q r H z h m L g x oo) : SGc u a b q r H2 z h m L g x oo := by
  obtain ⟨z1, z2, z3, T0, z4, z5⟩ := y
  exact ⟨z1, z2, fun p t hp => z3 p t ((hm p t).mpr hp), T0, z4, fun v T h1 h2 h3 h4 h5 h6 => z5 v T (fun j j1 j2 j3 => h1 j j1 j2 (fun t hp => j3 t ((hm j t).mpr hp))) h2 h3 h4 (fun p t hp => h5 p t ((hm p t).mp hp)) h6⟩
theorem SGH_0 (cu : CVI u lv) : SGH u u lv lo q q o 0 [] := ⟨fun e he => absurd he (by simp), List.nodup_nil, fun h m L g x p => ⟨fun _ => rfl, by
  rw [show knc u u = 0 by show (F u 706 - F u 706).toNat = 0; omega]
  exact SG_nl⟩⟩
theorem SGH_seq (ku : KMc u v lv) (kv : KMc v w lv) (h1 : F u 706 ≤ F v 706) (h2 : F v 706 ≤ F w 706) (ol : OLQ v w q2 q3) (y1 : SGH u v lv lo q q2 o s Hk) (y2 : TYX v w lv x q2 q3 o False d) (hd : lo + 2 * s ≤ x) : SGH u w lv lo q q3 o (s + d) Hk := by
  have cv := ku.2.1.1
  refine ⟨fun e he => ?_, y1.2.1, fun h m L g x0 p => ?_⟩
  · obtain ⟨a1, a2, a3⟩ := y1.1 e he
    have a3' : e.1 < (F v 441).toNat := a3
    exact ⟨by rw [ol.1 e.1 (by omega)]; exact a1, a2, Nat.lt_of_lt_of_le a3 (szc_le ku.2.1 kv)⟩
  · obtain ⟨n1, i1⟩ := y1.2.2 h m L g x0 (PRE_1 p kv)
    obtain ⟨n2, i2⟩ := y2 (h + s) (m + knc u v) L g x0 (PRE_2 p ku h1 hd)
    refine ⟨fun hg => (n2 hg).trans (n1 hg), ?_⟩
    have j1 := SG_kw ku.2.1 i1 kv.1 ol (Nat.le_refl _) (Or.inl (Nat.le_refl _))
    have j := SG_seq j1 (SG_z (z2 := h) i2 (by omega)) (by omega) (fun hg => by
      have := n1 hg
      show m + (F v 706 - F u 706).toNat = m
      omega)
    rw [List.append_nil, Nat.add_assoc, Nat.add_assoc, kn_tr h1 h2] at j
    exact j
theorem SGH_and {y : Int} (ku : KMc u v lv) (h1 : F u 706 ≤ F v 706) (e : EMc v w [y, 0]) (hy : y = 13 ∨ y = 14) (gd : GDc w hi q2) (l15 : lo + 2 * s ≤ hi + 2) (hs : 1 ≤ s) (y1 : SGH u v lv lo q q2 o s Hk) : SGH u w lv lo q q2 o (s - 1) ((szc v + 1, s - 1, F v 706) :: Hk) ∧ F w 441 - 1 = ((szc v + 1 : Nat) : Int) := by
  have cv := ku.2.1
  have pe := PC_em (hi := hi) (q := q2) cv e
  obtain ⟨ol, e1, e2⟩ := pe.2.2.2 gd
  have kv := pe.1
  have e6 : F w 706 = F v 706 := congrArg _ (e.1.1 706 (by simp))
  have es : szc w = szc v + 2 := e1
  have c1 := cv.1
  have hl15 := gd.2.2.2.1
  have hw1 : A w 23 (szc v + 1) = 0 := e2 1 (by simp)
  have hle : szc u ≤ szc v + 1 := by
    have h4 := ku.2.2.1
    show (F u 441).toNat ≤ (F v 441).toNat + 1
    omega
  refine ⟨⟨fun e he => ?_, ?_, fun h m L g x0 p => ?_⟩, ?_⟩
  · simp only [List.mem_cons] at he
    rcases he with rfl | he
    · exact ⟨hw1, hle, by rw [es]; show szc v + 1 < szc v + 2; omega⟩
    · obtain ⟨a1, a2, a3⟩ := y1.1 e he
      have a3' : e.1 < (F v 441).toNat := a3
      exact ⟨by rw [ol.1 e.1 (by omega)]; exact a1, a2, by rw [es]; omega⟩
  · rw [List.map_cons, List.nodup_cons]
    refine ⟨fun hm => ?_, y1.2.1⟩
    obtain ⟨e, he, h5⟩ := List.mem_map.mp hm
    have a3 := (y1.1 e he).2.2
    have h6 : e.1 = szc v + 1 := h5
    omega
  · have p1 := PRE_1 p kv
    obtain ⟨n1, i1⟩ := y1.2.2 h m L g x0 p1
    have pb := PRE_b cv ku h1 p1
    refine ⟨fun hg => e6.trans (n1 hg), ?_⟩
    have j1 := SG_kw cv i1 kv.1 ol (Nat.le_refl _) (Or.inl (Nat.le_refl _))
    have j2 := SG_and (u := w) (a := szc v) (q := q2) (z := h) (h := h + s) (m := m + knc u v) (L := L) (g := g) (x := x0) (by omega) (by omega) pb.1 (by
      have h0 : A w 23 (szc v) = y := e2 0 (by simp)
      rw [h0]; exact hy) (by omega)
    have j := SG_seq j1 j2 (by omega) (fun hg => by
      have := n1 hg
      show m + (F v 706 - F u 706).toNat = m
      omega)
    rw [← es, show knc u v = knc u w by show (F v 706 - F u 706).toNat = _; rw [← e6], show h + s - 1 = h + (s - 1) by omega] at j
    refine SG_pm (fun p t => ?_) j
    have e7 : (F v 706 - F u 706).toNat = knc u w := by rw [← e6]
    simp only [List.mem_append, HKm, List.map_cons, List.mem_cons, List.not_mem_nil, or_false]
    rw [e7, show s - 1 + 1 = s by omega]
    exact Or.comm
  · have : F w 441 = ((szc w : Nat) : Int) := by
      have := kv.2.1.1
      show F w 441 = (((F w 441).toNat : Nat) : Int)
      omega
    rw [this, es]
    omega
theorem close_B {α : Type} {K : MS → α → Prop} {fn : MS → Unit → Option (MS × α)} (hN : 24002 ≤ N) (pv : PCQ u v lv W t hi q q2 (SGH u v lv lo q q2 o s ((p, s - 1, ka) :: Hk) ∧ cc = ((p : Nat) : Int) ∧ Z)) (cu : CVI u lv) (hq : q ≤ q2) (hs : 1 ≤ s) (h15 : lo + 2 * s ≤ hi + 2) (h1 : F u 706 ≤ ka) (h2 : ka ≤ F v 706) (hc : RG cc) (kk : ∀ w, KMF v w → PCQ u w lv (W + 2) t hi q q2 (SGH u w lv lo q q2 o s Hk ∧ Z) → F w 706 = ka → OK K (fn w ())) : OK K (bnd (hm_Cm_forget N v (I ka)) (fun u1 _ => bnd (hm_Co_arrive N u1 (I cc)) fn)) := by
  have cv := pv.1.2.1
  have e40 := pv.1.2.2.2.2.2.2.1 lv (Nat.le_refl _)
  have c40 := cu.2.2.2.2.2.2.2.1
  refine forget_B cv (by omega) h2 (fun v1 l k1 e6 f1 em hl => ?_)
  have p1 : PCQ u v1 lv (W + 2) t hi q q2 ((SGH u v1 lv lo q q2 o s ((p, s - 1, ka) :: Hk) ∧ cc = ((p : Nat) : Int) ∧ Z)) := PC_fgt k1 e6 f1 em hl pv h1 hq (fun gw gv ol y fg => by
    obtain ⟨y1, y2, y3⟩ := y
    refine ⟨⟨fun e he => ?_, y1.2.1, fun h m L g x0 p => ?_⟩, y2, y3⟩
    · obtain ⟨a1, a2, a3⟩ := y1.1 e he
      have a3' : e.1 < (F v 441).toNat := a3
      exact ⟨by rw [ol.1 e.1 (by omega)]; exact a1, a2, Nat.lt_of_lt_of_le a3 (szc_le cv k1)⟩
    · have q1 := PRE_1 p k1
      obtain ⟨n1, i1⟩ := y1.2.2 h m L g x0 q1
      have pb := PRE_b cv pv.1 pv.2.1.1 q1
      have l15 := gw.2.2.2.1
      have kn : ((knc u v : Nat) : Int) = F v 706 - F u 706 := by show (((F v 706 - F u 706).toNat : Nat) : Int) = _; omega
      have kn2 : ((knc u v1 : Nat) : Int) = ka - F u 706 := by show (((F v1 706 - F u 706).toNat : Nat) : Int) = _; omega
      refine ⟨fun hg => by have := n1 hg; omega, ?_⟩
      have j1 := SG_kw cv i1 k1.1 ol (Nat.le_refl _) (Or.inl (Nat.le_refl _))
      have j2 := fg h (h + s) (m + knc u v) L g x0 (by omega) (by omega) pb.1 (by omega) (by
        by_cases hg : g = 0
        · exact Or.inr hg
        · have := n1 hg
          exact Or.inl (by omega))
      have j := SG_seq j1 j2 (by omega) (fun hg => by
        have := n1 hg
        omega)
      rw [List.append_nil, show m + knc u v - (F v 706 - ka).toNat = m + knc u v1 by omega] at j
      exact j)
  rw [ok_bnd]
  refine ok_mono (arrive_ok (N := N) (u := v1) hc hN) (fun w _ hw => kk w (KMF.tr k1.1 (FR.mo hw.1 (by simp) (by simp) (by simp) (by simp))) ?_ ?_)
  · have c1 := p1.1.2.1
    have arr : SGH u v1 lv lo q q2 o s ((p, s - 1, ka) :: Hk) → GDc v1 hi q2 → cc = ((p : Nat) : Int) → (∀ p2, p2 ∈ [p] → A w 23 p2 = F v1 441) ∧ ∀ j, j ∉ [p] → A w 23 j = A v1 23 j := fun y gv hcc => by
      obtain ⟨a1, a2, a3⟩ := y.1 _ (List.mem_cons_self ..)
      have a3' : p < (F v1 441).toNat := a3
      have a2' : (F u 441).toNat ≤ p := a2
      have := cu.1
      have := gv.2.2.1
      exact hw.2 [p] ⟨hcc, ⟨by omega, by omega⟩, fun q hq => absurd hq (by simp), a1⟩
    refine PC_arr p1 hw.1 (fun gv y j hj => ?_) (fun gw gv y => ?_)
    · refine (arr y.1 gv y.2.1).2 j (fun hj2 => ?_)
      simp only [List.mem_singleton] at hj2
      have a2 : (F u 441).toNat ≤ p := (y.1.1 _ (List.mem_cons_self ..)).2.1
      omega
    · obtain ⟨y1, y2, y3⟩ := y
      have ar := arr y1 gv y2
      have nd := y1.2.1
      rw [List.map_cons, List.nodup_cons] at nd
      have e4 : szc w = szc v1 := by show (F w 441).toNat = (F v1 441).toNat; rw [show F w 441 = F v1 441 from congrArg _ (hw.1.1 441 (by simp))]
      have e6w : F w 706 = F v1 706 := congrArg _ (hw.1.1 706 (by simp))
      have np : ∀ e, e ∈ Hk → e.1 ≠ p := fun e he z => nd.1 (List.mem_map.mpr ⟨e, he, z⟩)
      have pl := y1.1 _ (List.mem_cons_self ..)
      refine ⟨⟨fun e he => ?_, nd.2, fun h m L g x0 pp => ?_⟩, y3⟩
      · obtain ⟨a1, a2, a3⟩ := y1.1 e (List.mem_cons_of_mem _ he)
        exact ⟨by rw [ar.2 e.1 (by simp; exact np e he)]; exact a1, a2, by rw [e4]; exact a3⟩
      · obtain ⟨n1, i1⟩ := y1.2.2 h m L g x0 (PRE_1 pp (KM_23 c1 hw.1))
        refine ⟨fun hg => e6w.trans (n1 hg), ?_⟩
        have ek : knc u w = (ka - F u 706).toNat := by show (F w 706 - F u 706).toNat = _; rw [e6w, e6]
        have ek1 : knc u v1 = (ka - F u 706).toNat := by show (F v1 706 - F u 706).toNat = _; rw [e6]
        rw [ek1] at i1
        rw [ek]
        have hpl : szc u < szc v1 := Nat.lt_of_le_of_lt pl.2.1 pl.2.2
        refine SG_arc (H1 := [(p, (h + (s - 1 + 1), m + (ka - F u 706).toNat, L, g, x0))]) (H2 := HKm u Hk h m L g x0) (Hp := [p]) (y1 := (h + s, m + (ka - F u 706).toNat, L, g, x0)) c1 hw.1 ar i1 hpl (Or.inr rfl) (fun p2 t hp => ?_) (fun p2 hp => ?_) (fun p2 t t2 hp hp2 => ?_)
        · simp only [List.mem_singleton] at hp
          injection hp with hp1 hp2
          rw [hp2, show s - 1 + 1 = s by omega]
          exact ⟨rfl, by simp [hp1]⟩
        · simp only [List.mem_singleton] at hp
          exact ⟨_, by rw [hp]; exact List.mem_singleton.mpr rfl⟩
        · simp only [List.mem_singleton] at hp
          injection hp with hp1 hp3
          obtain ⟨e, he, h5⟩ := List.mem_map.mp hp2
          injection h5 with h6 h7
          exact np e he (h6.trans hp1)
  · rw [show F w 706 = F v1 706 from congrArg _ (hw.1.1 706 (by simp))]
    exact e6
theorem SF_hd {E : Nat → Nat → Nat → Nat → Nat → Nat → Nat → Prop} (hb : BdE E) : ∀ {j n x c q s : Nat} {aa oo : Option Nat}, SFc u E hi b r j n x c q s aa oo → c + j ≤ b ∧ x ≤ hi + 1 ∧ q ≤ r
  | 0, _, _, _, _, _, _, _, h => by
    obtain ⟨-, h1, h2, h3, -⟩ := h
    omega
  | j + 1, n, x, c, q, s, aa, oo, h => by
    obtain ⟨-, n2, x2, c2, q2, s2, aa2, oo2, h1, -, h2⟩ := h
    have a := STP_hd hb h1
    have b := SF_hd hb h2
    omega
end
