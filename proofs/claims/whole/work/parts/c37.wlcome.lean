/-! a message comes while ends are told -/
set_option maxRecDepth 100000
/-- what has moved: nothing of those that have ENDED, nor of the watches -/
def MVs (m w m2 w2 : MS) : Prop := PGs m w m2 w2 ∧ (∀ d, F m (pq d 9) = 3 → LOCm d m m2) ∧ (∀ d, d = 24 ∨ A w 109 d = 3 → LOCw d w w2) ∧ ((∀ k, k = 49 ∨ k = 50 ∨ k = 51 → m2.2.2.1 k = m.2.2.1 k) ∧ m2.1 950 = m.1 950 ∧ m2.1 956 = m.1 956) ∧ (∀ k, k = 122 ∨ k = 123 ∨ k = 124 → w2.2.2.1 k = w.2.2.1 k) ∧ w2.1 125 = w.1 125 ∧ w2.1 149 = w.1 149
section
variable {b : Int → Nat → Nat → Prop} {Fv Fv' : Int64 → Int64 → Prop} {P P' : Int64 → Prop} {N f PR q r o s U B W Y i j d e e' hm : Nat} {m w m2 w2 m3 w3 : MS} {t x : Int64} {wr v4 : Int} {cur src : Option Nat} {RR : Nat → MS → MS → Prop}
theorem LOCm.tr (a : LOCm d m m2) (c : LOCm d m2 m3) : LOCm d m m3 := fun k hk => ⟨(c k hk).1.trans (a k hk).1, (c k hk).2.1.trans (a k hk).2.1, (c k hk).2.2.1.trans (a k hk).2.2.1, (c k hk).2.2.2.trans (a k hk).2.2.2⟩
theorem LOCw.tr (a : LOCw d w w2) (c : LOCw d w2 w3) : LOCw d w w3 := by
  obtain ⟨a1, a2, a3, a4, a5, a6, a7, a8⟩ := a
  obtain ⟨c1, c2, c3, c4, c5, c6, c7, c8⟩ := c
  exact ⟨fun K i h => (c1 K i h).trans (a1 K i h), fun K h => (c2 K h).trans (a2 K h), fun i h h' => (c3 i h h').trans (a3 i h h'), c4.trans a4, fun i h h' => (c5 i h h').trans (a5 i h h'), fun i h h' => (c6 i h h').trans (a6 i h h'), fun i h h' => (c7 i h h').trans (a7 i h h'), fun i h h' => (c8 i h h').trans (a8 i h h')⟩
theorem LOCm.rf : LOCm d m m := fun _ _ => ⟨rfl, rfl, rfl, rfl⟩
theorem LOCw.rf : LOCw d w w := ⟨fun _ _ _ => rfl, fun _ _ => rfl, fun _ _ _ => rfl, rfl, fun _ _ _ => rfl, fun _ _ _ => rfl, fun _ _ _ => rfl, fun _ _ _ => rfl⟩
theorem ATc_eq (h1 : m2.2.2.1 2 = m.2.2.1 2) (h2 : m2.2.2.1 3 = m.2.2.1 3) : ATc m2 = ATc m := by
  funext a
  unfold ATc
  rw [h1]
  congr 1
  funext i
  show (m2.2.2.1 3 i).toInt.toNat = _
  rw [h2]
  rfl
theorem PG0.tr (a : PG0 m w m2 w2) (c : PG0 m2 w2 m3 w3) : PG0 m w m3 w3 := ⟨⟨c.1.1.trans a.1.1, c.1.2.1.trans a.1.2.1, c.1.2.2.trans a.1.2.2⟩, fun K h => (c.2.1 K h).trans (a.2.1 K h), c.2.2.1.trans a.2.2.1, c.2.2.2.1.trans a.2.2.2.1, c.2.2.2.2.1.trans a.2.2.2.2.1, c.2.2.2.2.2.trans a.2.2.2.2.2⟩
theorem PGs.tr (a : PGs m w m2 w2) (c : PGs m2 w2 m3 w3) : PGs m w m3 w3 := ⟨PG0.tr a.1 c.1, fun k h1 h2 => ⟨(c.2.1 k h1 h2).1.trans (a.2.1 k h1 h2).1, (c.2.1 k h1 h2).2.trans (a.2.1 k h1 h2).2⟩, fun k h => (c.2.2 k h).trans (a.2.2 k h)⟩
theorem PGs.rf : PGs m w m w := ⟨⟨⟨rfl, rfl, rfl⟩, fun _ _ => rfl, rfl, rfl, rfl, rfl⟩, fun _ _ _ => ⟨rfl, rfl⟩, fun _ _ => rfl⟩
/-- by frames -/
theorem PG0_fr {is ls as js is2 ls2 as2 js2 : List Nat} (f : FR is ls as js m m2) (g : FR is2 ls2 as2 js2 w w2) (h1 : ∀ k, k ∈ is → k ≠ 22) (h3 : ∀ k, k ∈ as → k ≠ 23 ∧ k ≠ 2 ∧ k ≠ 3) (h4 : ∀ k, k ∈ is2 → k ≠ 14) (h5 : ∀ k, k ∈ as2 → ¬ PRr k ∧ k ≠ 12 ∧ k ≠ 13) (h6 : 34 ∉ js2) : PG0 m w m2 w2 := ⟨⟨f.2.2.1 23 (fun z => (h3 23 z).1 rfl), f.1 22 (fun z => h1 22 z rfl), ATc_eq (f.2.2.1 2 (fun z => (h3 2 z).2.1 rfl)) (f.2.2.1 3 (fun z => (h3 3 z).2.2 rfl))⟩, fun K h => g.2.2.1 K (fun z => (h5 K z).1 h), g.2.2.2 34 h6, g.2.2.1 12 (fun z => (h5 12 z).2.1 rfl), g.2.2.1 13 (fun z => (h5 13 z).2.2 rfl), g.1 14 (fun z => h4 14 z rfl)⟩
theorem PGs_fr {is ls as js is2 ls2 as2 js2 : List Nat} (f : FR is ls as js m m2) (g : FR is2 ls2 as2 js2 w w2) (h1 : ∀ k, k ∈ is → k ≠ 22 ∧ ¬ (1100 ≤ k ∧ k < 1120)) (h2 : ∀ k, k ∈ ls → ¬ (1100 ≤ k ∧ k < 1120)) (h3 : ∀ k, k ∈ as → k ≠ 23 ∧ k ≠ 2 ∧ k ≠ 3) (h4 : ∀ k, k ∈ is2 → k ≠ 14 ∧ k ≠ 133 ∧ ¬ (151 ≤ k ∧ k ≤ 165)) (h5 : ∀ k, k ∈ as2 → ¬ PRr k ∧ k ≠ 12 ∧ k ≠ 13) (h6 : 34 ∉ js2) : PGs m w m2 w2 := by
  refine ⟨PG0_fr f g (fun k z => (h1 k z).1) h3 (fun k z => (h4 k z).1) h5 h6, fun k a c => ⟨f.1 k (fun z => (h1 k z).2 ⟨a, c⟩), f.2.1 k (fun z => h2 k z ⟨a, c⟩)⟩, fun k h => g.1 k (fun z => ?_)⟩
  have := h4 k z
  omega
theorem MVs.rf : MVs m w m w := ⟨PGs.rf, fun _ _ => LOCm.rf, fun _ _ => LOCw.rf, ⟨fun _ _ => rfl, rfl, rfl⟩, fun _ _ => rfl, rfl, rfl⟩
theorem pq_n {k : Nat} (h : k < 2000) {r l : Nat} : k ≠ pq r l := by unfold pq; omega
theorem PGs_xm (h : XMm q m m2) (g : XMr q w w2) : PGs m w m2 w2 := PGs_fr h g.1 (fun k hk => by simp at hk; unfold pq at hk; omega) (by simp) (by simp) (fun k hk => by simp at hk; omega) (fun k hk => by simp at hk; unfold PRr; omega) (by simp)
theorem LOCm_xm (h : XMm q m m2) (hd : d ≠ q) : LOCm d m m2 := fun k hk => by
  have n : ∀ l, l < 100 → pq d k ≠ pq q l := fun l hl c => hd (pq_e hk hl c).1
  refine ⟨h.1 _ ?_, h.2.1 _ (by simp), h.2.2.1 _ (by simp), h.2.2.2 _ ?_⟩
  · simp only [List.mem_cons, List.not_mem_nil, or_false]
    intro c
    rcases c with c | c | c
    · exact n 4 (by omega) c
    · exact n 5 (by omega) c
    · exact n 7 (by omega) c
  · simp only [List.mem_cons, List.not_mem_nil, or_false]
    intro c
    rcases c with c | c | c | c | c | c
    · exact n 2 (by omega) c
    · exact n 3 (by omega) c
    · exact n 33 (by omega) c
    · exact n 35 (by omega) c
    · exact n 6 (by omega) c
    · exact pq_n (by omega) c.symm
theorem LOCw_xm (h : XMr q w w2) (hd : d ≠ q) : LOCw d w w2 := by
  have e := EQw.xm h d
  obtain ⟨h1, h2, h3, h4, h5, h6⟩ := h
  have ai : ∀ {x y : Int32}, x.toInt = y.toInt → x = y := fun h => Int32.toInt_inj.mp h
  refine ⟨e.1, fun K hK => ?_, fun i _ _ => by rw [h1.2.2.1 131 (by simp)], e.2.1, fun i a c => h3 i (by omega), fun i a c => h4 i (by omega), fun i a c => h5 i (by omega), fun i a c => h6 i (by omega)⟩
  obtain ⟨g1, g2, g3⟩ := h2 d hd
  rcases hK with rfl | rfl | rfl | rfl
  · exact ai g1
  · exact g2
  · exact ai g3
  · rw [h1.2.2.1 132 (by simp)]
/-- what an end leaves as it was -/
theorem enS_1 {k : Nat} (h1 : k ≠ pq q 9) (h2 : k ≠ pq q 17) (h3 : k ≠ 955) : (enS m q t hm e).1 k = m.1 k := by
  show (if k = 955 then _ else if k = pq q 17 then _ else if k = pq q 9 then _ else m.1 k) = _
  rw [if_neg h3, if_neg h2, if_neg h1]
theorem enS_2 {k : Nat} (h1 : k ≠ pq q 16) : (enS m q t hm e).2.1 k = m.2.1 k := if_neg h1
theorem enS_3 {k : Nat} (h1 : k ≠ 54) : (enS m q t hm e).2.2.1 k = m.2.2.1 k := if_neg h1
theorem enS_4 {k : Nat} : (enS m q t hm e).2.2.2 k = m.2.2.2 k := rfl
theorem enS_v : F (enS m q t hm e) (pq q 9) = 3 ∧ (enS m q t hm e).1 (pq q 17) = fr (some hm) ∧ (enS m q t hm e).2.1 (pq q 16) = t := by
  refine ⟨?_, ?_, if_pos rfl⟩
  · show (if pq q 9 = 955 then _ else if pq q 9 = pq q 17 then _ else if pq q 9 = pq q 9 then I 3 else m.1 (pq q 9)).toInt = 3
    rw [if_neg (fun c => pq_n (by omega) c.symm), if_neg (pq_inj (by omega)), if_pos rfl]
    rfl
  · show (if pq q 17 = 955 then _ else if pq q 17 = pq q 17 then fr (some hm) else _) = _
    rw [if_neg (fun c => pq_n (by omega) c.symm), if_pos rfl]
theorem enS_q (he : e < 1000) (hq : q < 1000) : F (enS m q t hm e) 955 = ((e + 1 : Nat) : Int) ∧ ∀ k, A (enS m q t hm e) 54 k = if k = e then ((q : Nat) : Int) else A m 54 k := by
  refine ⟨?_, fun k => ?_⟩
  · unfold enS
    rw [F_wi (by omega) (by omega), if_pos rfl]
  · unfold enS
    show A (wa (upI (wl (wi m (pq q 9) 3) (pq q 16) t) (pq q 17) (fr (some hm))) 54 e ((q : Nat) : Int)) 54 k = _
    rw [A_wa (by omega) (by omega), if_pos rfl]
    rfl
theorem LOCm_en (hd : d ≠ q) : LOCm d m (enS m q t hm e) := fun k hk => ⟨enS_1 (fun c => hd (pq_e hk (by omega) c).1) (fun c => hd (pq_e hk (by omega) c).1) (fun c => pq_n (by omega) c.symm), enS_2 (fun c => hd (pq_e hk (by omega) c).1), enS_3 (fun c => pq_n (by omega) c.symm), rfl⟩
theorem enR_fr : FR [150] [] [109, 145, 146, 147] [148] w (enR w q wr ((o : Nat) : Int) x e) := FR.wi (FR.wj (FR.wa (FR.wa (FR.wa (FR.wa FR.rf (by simp)) (by simp)) (by simp)) (by simp)) (by simp)) (by simp)
theorem enR_9 : ∀ k, A (enR w q wr ((o : Nat) : Int) x e) 109 k = if k = q then 3 else A w 109 k := fun k => by
  show A (wa (wa (wa (wa w 109 q 3) 145 e ((q : Nat) : Int)) 146 e wr) 147 e ((o : Nat) : Int)) 109 k = _
  show A (wa w 109 q 3) 109 k = _
  rw [A_wa (by omega) (by omega), if_pos rfl]
theorem enR_q (he : e < 10000) (hq : q < 1000) (ho : o < 1000) (hw : RG wr) : F (enR w q wr ((o : Nat) : Int) x e) 150 = ((e + 1 : Nat) : Int) ∧ (∀ k, A (enR w q wr ((o : Nat) : Int) x e) 145 k = if k = e then ((q : Nat) : Int) else A w 145 k) ∧ (∀ k, A (enR w q wr ((o : Nat) : Int) x e) 146 k = if k = e then wr else A w 146 k) ∧ (∀ k, A (enR w q wr ((o : Nat) : Int) x e) 147 k = if k = e then ((o : Nat) : Int) else A w 147 k) ∧ ∀ k, (enR w q wr ((o : Nat) : Int) x e).2.2.2 148 k = if k = e then x else w.2.2.2 148 k := by
  refine ⟨?_, fun k => ?_, fun k => ?_, fun k => ?_, fun k => ?_⟩
  · unfold enR
    rw [F_wi (by omega) (by omega), if_pos rfl]
  · show A (wa (wa (wa (wa w 109 q 3) 145 e ((q : Nat) : Int)) 146 e wr) 147 e ((o : Nat) : Int)) 145 k = _
    rw [wa_rne (by omega), wa_rne (by omega), wa_ro (by omega) (by omega), wa_rne (by omega)]
  · show A (wa (wa (wa (wa w 109 q 3) 145 e ((q : Nat) : Int)) 146 e wr) 147 e ((o : Nat) : Int)) 146 k = _
    rw [wa_rne (by omega), wa_ro hw.1 hw.2, wa_rne (by omega), wa_rne (by omega)]
  · show A (wa (wa (wa (wa w 109 q 3) 145 e ((q : Nat) : Int)) 146 e wr) 147 e ((o : Nat) : Int)) 147 k = _
    rw [wa_ro (by omega) (by omega), wa_rne (by omega), wa_rne (by omega), wa_rne (by omega)]
  · show (wj (wa (wa (wa (wa w 109 q 3) 145 e ((q : Nat) : Int)) 146 e wr) 147 e ((o : Nat) : Int)) 148 e x).2.2.2 148 k = _
    rw [wj_row]
    rfl
theorem LOCw_en (hd : d ≠ q) : LOCw d w (enR w q wr ((o : Nat) : Int) x e) := by
  have f := enR_fr (w := w) (q := q) (wr := wr) (o := o) (x := x) (e := e)
  have a9 := enR_9 (w := w) (q := q) (wr := wr) (o := o) (x := x) (e := e)
  refine ⟨fun K i h => ?_, fun K h => by rw [f.2.2.1 K (by simp; omega)], fun i _ _ => by rw [f.2.2.1 131 (by simp)], by rw [f.2.2.2 111 (by simp)], fun i _ _ => by rw [f.2.2.2 88 (by simp)], fun i _ _ => by rw [f.2.2.2 91 (by simp)], fun i _ _ => by rw [f.2.2.2 93 (by simp)], fun i _ _ => by rw [f.2.2.2 107 (by simp)]⟩
  by_cases c : K = 109
  · subst c
    have : i = d := by
      rcases h with h | h | h | h
      · exact h.2
      · omega
      · omega
      · omega
    subst this
    have g := a9 i
    rw [if_neg hd] at g
    exact Int32.toInt_inj.mp g
  · rw [f.2.2.1 K (by
      simp only [List.mem_cons, List.not_mem_nil, or_false]
      rcases h with ⟨h, -⟩ | ⟨h, -⟩ | ⟨h, -⟩ | ⟨h, -⟩ <;> omega)]
theorem PGs_en : PGs m w (enS m q t hm e) (enR w q wr ((o : Nat) : Int) x e') := by
  have f : FR [pq q 9, pq q 17, 955] [pq q 16] [54] [] m (enS m q t hm e) := ⟨fun k hk => enS_1 (fun c => hk (by simp [c])) (fun c => hk (by simp [c])) (fun c => hk (by simp [c])), fun k hk => enS_2 (fun c => hk (by simp [c])), fun k hk => enS_3 (fun c => hk (by simp [c])), fun _ _ => rfl⟩
  exact PGs_fr f enR_fr (fun k hk => by simp at hk; unfold pq at hk; omega) (fun k hk => by simp at hk; unfold pq at hk; omega) (fun k hk => by simp at hk; omega) (fun k hk => by simp at hk; omega) (fun k hk => by simp at hk; unfold PRr; omega) (by simp)
end
