/-! the end of a fun, there -/
set_option maxRecDepth 100000
section
variable {α β : Type} {m0 w0 m w m2 w2 u v Z : MS} {K nm Nk W : Nat → Nat} {N T D a b c cm cmC q lo hi n : Nat} {sc t2 : SCT} {p2 : List Nat × Nat} {x712 : Int32}
theorem set_j (h : n < 24000) {x : Int32} : hm_Co_set N u (I (n : Nat)) x = some (upA u 23 (upd (u.2.2.1 23) n x), ()) := by
  have d1 : decide (I (n : Nat) < (0 : Int32)) = false := decide_eq_false (fun z => by
    have := (I_lt (x := ((n : Nat) : Int)) (y := 0) (by omega) (by omega) (by decide) (by decide)).mp z
    omega)
  have d3 : decide ((24000 : Int32) ≤ I (n : Nat)) = false := decide_eq_false (fun z => by
    have := (I_le (x := 24000) (y := ((n : Nat) : Int)) (by decide) (by decide) (by omega) (by omega)).mp z
    omega)
  unfold hm_Co_set hb_Co_set_0 hb_Co_set_18
  rw [d1, br_f, d3, br_f, i_inb (by omega) (by decide), ck_t, i_nt2 (p := n) (by omega), lt_e]
theorem XCS_A {k : Nat} {f : Nat → Int32} {g : Bool} (h : XCS m0 nm m a cm sc g) (hk : k = 23 ∨ (26 ≤ k ∧ k ≤ 35)) : XCS m0 nm (upA m k f) a cm sc g := by
  obtain ⟨⟨h1, h3, h4, h5, h6, h7⟩, h8⟩ := h
  exact ⟨⟨⟨h1.1, fun j hj => by rw [upA_no (by omega)]; exact h1.2 j hj⟩, ⟨h3.1, h3.2.1, h3.2.2.1, h3.2.2.2.1, CNl_fr h3.2.2.2.2 (upA_no (by omega)) (fun j _ => by rw [upA_no (by omega)])⟩, h4, h5, by rw [upA_no (by omega)]; exact h6, h7⟩, h8⟩
set_option maxHeartbeats 1000000 in
theorem fne_x {B : Option (MS × β)} {RU : MS → Unit → MS → β → Prop} {S : SF_Cm_fun} (c : CTZ m0 w0 K T nm Nk) (hC2 : XCS m0 nm m2 b cmC (([], p2) :: t2) false) (hcm : m2.2.2.1 41 (t2.length - 1) = I (cm : Nat) ∧ cm ≤ 4000 ∧ (hdS t2).1.length ≤ cm) (ht : 1 ≤ t2.length ∧ t2.length ≤ 26) (hx : x712 = 0) (hhk : m2.2.2.1 23 (a + 1) = 0 ∧ a + 1 < b) (hq : q < 400) (hn : n ≤ 8015) (h17 : A m0 17 n = ((lo : Nat) : Int)) (h20 : A m0 20 n = ((hi - 1 : Nat) : Int)) (hlh : lo ≤ hi ∧ 1 ≤ hi ∧ hi ≤ 4001) (htk : TKh m2 K nm Nk W lo hi)
    (hh : ∀ (mF : MS) (d : List Nat), d = hdn Nk K W (t2.length - 1) (hi - lo) lo [] → cmC + d.length ≤ 40 → XCS m0 nm mF (b + 4 + d.length) cm t2 false → (∀ k, k ≠ 441 → k ≠ 709 → mF.1 k = m2.1 k) → mF.1 709 = I ((t2.length - 1 : Nat) : Int) → (∀ k, k ≠ 23 → k ≠ 32 → mF.2.2.1 k = m2.2.2.1 k) → (∀ j, j < b → j ≠ a + 1 → mF.2.2.1 23 j = m2.2.2.1 23 j) → (mF.2.2.1 23 (a + 1) = I ((b + 1 : Nat) : Int) ∧ mF.2.2.1 23 b = 36 ∧ mF.2.2.1 23 (b + 1) = 6 ∧ mF.2.2.1 23 (b + 2) = I (q : Nat) ∧ mF.2.2.1 23 (b + 3) = I (d.length : Nat)) → (∀ k x, d[k]? = some x → mF.2.2.1 23 (b + 4 + k) = I (nm x : Nat) ∧ nm x ≤ 1401) → (mF.2.2.1 32 q = I ((b + 3 : Nat) : Int) ∧ ∀ j, j ≠ q → mF.2.2.1 32 j = m2.2.2.1 32 j) → PP RU (some (mF, ())) B) : PP RU (bnd (jm_Co_put N m2 36) (fun u65 _ => ck (inb (u65.1 709) 32) (lt (upI u65 709 ((u65.1 709) - 1)) (fun w72 => ck (isb x712) (lt (upI w72 712 x712) (fun w73 => bnd (hm_Co_arrive N w73 (I ((a + 1 : Nat) : Int))) (fun u75 _ => bnd (jm_Co_put N u75 6) (fun u78 _ => bnd (jm_Co_put N u78 (I (q : Nat))) (fun u81 _ => ck (inb (I (q : Nat)) 400) (lt (upA u81 32 (upd (u81.2.2.1 32) q (u81.1 441))) (fun w90 => bnd (jm_Co_put N w90 0) (fun u92 _ => ck (inb (I (n : Nat)) 8016) (ck (inb (I (n : Nat)) 8016) (bnd (jm_Cm_hold N u92 (u92.2.2.1 17 n) (u92.2.2.1 20 n)) (fun u104 r104 => ck (inb (I (q : Nat)) 400) (bnd (hm_Co_set N u104 (u104.2.2.1 32 q) r104) (fun u111 _ => br (decide ((u111.1 711) = 0)) (br (decide (((u65.2.2.1 41 (u65.1 709).toNatClampNeg) + r104) ≤ 40)) (jb_Cm_fun_308 N S () u111 (0)) (jb_Cm_fun_303 N S () u111)) (jb_Cm_fun_303 N S () u111)))))))))))))))))) B := by
  subst hx
  refine l_put hC2.1.2.2.1.1 hC2.1.2.2.1.2.2 (fun ha => ?_)
  have k1 := XCS_put (x := 36) hC2 ha
  have e1o : ∀ j, j ≠ b → (ptc m2 b 36).2.2.1 23 j = m2.2.2.1 23 j := fun j hj => ptc_o hj
  have e1b : (ptc m2 b 36).2.2.1 23 b = 36 := ptcs_at (l := [36]) (k := 0) rfl
  have e1r : ∀ k, k ≠ 23 → (ptc m2 b 36).2.2.1 k = m2.2.2.1 k := fun k hk => ptc_r hk
  have e1i : ∀ k, k ≠ 441 → (ptc m2 b 36).1 k = m2.1 k := fun k hk => ptc_i hk
  generalize ptc m2 b 36 = m3 at k1 e1o e1b e1r e1i
  have h709 : m3.1 709 = I (t2.length : Nat) := k1.1.2.1.1
  have e709 : m3.1 709 - 1 = I ((t2.length - 1 : Nat) : Int) := by
    rw [h709]
    exact (I_mn (a := t2.length) (c := 1) (by omega) rfl).trans rfl
  have h41 : m3.2.2.1 41 t2.length = I (cmC : Nat) := k1.1.2.2.2.2.1
  have cm40 : cmC ≤ 4000 := k1.1.2.2.2.2.2.1
  rw [e709, h709, i_nt2 (p := t2.length) (by omega), h41]
  refine l_ck (fun _ => l_lt ?_)
  have z712 : (upI m3 709 (I ((t2.length - 1 : Nat) : Int))).1 712 = 0 := by
    rw [upI_ne (by decide)]
    exact of_decide_eq_true (by have := k1.2; exact this)
  rw [show isb 0 = true from rfl, ck_t, show upI (upI m3 709 (I ((t2.length - 1 : Nat) : Int))) 712 0 = upI m3 709 (I ((t2.length - 1 : Nat) : Int)) from upI_id z712, lt_e]
  have k2 : XCS m0 nm (upI m3 709 (I ((t2.length - 1 : Nat) : Int))) (b + 1) cm t2 false := by
    obtain ⟨⟨p1, p2, p3, p4, p5, p6, p7⟩, p8⟩ := k1
    refine ⟨⟨⟨fun k hk => by rw [upI_ne (by omega)]; exact p1.1 k hk, p1.2⟩, ⟨upI_at, ⟨ht.1, by omega⟩, by rw [upI_ne (by decide)]; exact p2.2.2.1, p2.2.2.2.1, CNl_fr p2.2.2.2.2.2.2 rfl (fun _ _ => rfl)⟩, ⟨by rw [upI_ne (by decide)]; exact p3.1, p3.2⟩, by rw [upI_ne (by decide)]; exact p4, ?_, hcm.2⟩, by rw [upI_ne (by decide)]; exact p8⟩
    show m3.2.2.1 41 (t2.length - 1) = _
    rw [e1r 41 (by decide)]
    exact hcm.1
  have e2i : ∀ k, k ≠ 441 → k ≠ 709 → (upI m3 709 (I ((t2.length - 1 : Nat) : Int))).1 k = m2.1 k := fun k h1 h2 => by rw [upI_ne h2, e1i k h1]
  have e29 : (upI m3 709 (I ((t2.length - 1 : Nat) : Int))).1 709 = I ((t2.length - 1 : Nat) : Int) := upI_at
  have e2r : (upI m3 709 (I ((t2.length - 1 : Nat) : Int))).2.2.1 = m3.2.2.1 := rfl
  generalize upI m3 709 (I ((t2.length - 1 : Nat) : Int)) = m4 at k2 e2i e29 e2r
  refine arr_n (hs := [a + 1]) k2 ⟨rfl, ⟨by omega, by omega⟩, fun h' hm => (by cases hm), by rw [e2r, e1o (a + 1) (by omega)]; exact hhk.1⟩ (fun Z hZ hZC => ?_)
  obtain ⟨g1, g2, g3, g4, g5⟩ := hZ
  have z1 : Z.2.2.1 23 (a + 1) = I ((b + 1 : Nat) : Int) := g5 _ List.mem_cons_self
  have zo : ∀ j, j ≠ a + 1 → j ≠ b → Z.2.2.1 23 j = m2.2.2.1 23 j := fun j h1 h2 => by
    rw [g4 j (fun y => h1 (by simpa using y)), e2r, e1o j h2]
  have zb : Z.2.2.1 23 b = 36 := by rw [g4 b (fun y => absurd (List.mem_singleton.mp y) (by omega)), e2r]; exact e1b
  have zr : ∀ k, k ≠ 23 → Z.2.2.1 k = m2.2.2.1 k := fun k hk => by rw [g2 k hk, e2r, e1r k hk]
  have zi : ∀ k, k ≠ 441 → k ≠ 709 → Z.1 k = m2.1 k := fun k h1 h2 => by rw [g1]; exact e2i k h1 h2
  have z9 : Z.1 709 = I ((t2.length - 1 : Nat) : Int) := by rw [g1]; exact e29
  refine l_put hZC.1.2.2.1.1 hZC.1.2.2.1.2.2 (fun hb1 => ?_)
  have k3 := XCS_put (x := 6) hZC hb1
  refine l_put k3.1.2.2.1.1 k3.1.2.2.1.2.2 (fun hb2 => ?_)
  have k4 := XCS_put (x := I (q : Nat)) k3 hb2
  have em : ptc (ptc Z (b + 1) 6) (b + 1 + 1) (I (q : Nat)) = ptcs Z (b + 1) [6, I (q : Nat)] := rfl
  rw [em] at k4 ⊢
  have e441 : (ptcs Z (b + 1) [6, I (q : Nat)]).1 441 = I ((b + 3 : Nat) : Int) := k4.1.2.2.1.1
  refine l_ck (fun _ => ?_)
  rw [e441]
  refine l_lt ?_
  have k5 := XCS_A (k := 32) (f := upd ((ptcs Z (b + 1) [6, I (q : Nat)]).2.2.1 32) q (I ((b + 3 : Nat) : Int))) k4 (Or.inr ⟨by decide, by decide⟩)
  have q5w : ∀ k z, [(6 : Int32), I (q : Nat)][k]? = some z → (ptcs Z (b + 1) [6, I (q : Nat)]).2.2.1 23 (b + 1 + k) = z := fun k z hz => ptcs_at hz
  have q5o : ∀ j, j < b + 1 → (ptcs Z (b + 1) [6, I (q : Nat)]).2.2.1 23 j = Z.2.2.1 23 j := fun j hj => ptcs_o (Or.inl hj)
  have q5r : ∀ k, k ≠ 23 → (ptcs Z (b + 1) [6, I (q : Nat)]).2.2.1 k = Z.2.2.1 k := fun k hk => ptcs_r hk
  have q5i : ∀ k, k ≠ 441 → (ptcs Z (b + 1) [6, I (q : Nat)]).1 k = Z.1 k := fun k hk => ptcs_i hk
  have w32 : W46 (ptcs Z (b + 1) [6, I (q : Nat)]) (upA (ptcs Z (b + 1) [6, I (q : Nat)]) 32 (upd ((ptcs Z (b + 1) [6, I (q : Nat)]).2.2.1 32) q (I ((b + 3 : Nat) : Int)))) 32 q (I ((b + 3 : Nat) : Int)) := w46_of
  generalize upA (ptcs Z (b + 1) [6, I (q : Nat)]) 32 (upd ((ptcs Z (b + 1) [6, I (q : Nat)]).2.2.1 32) q (I ((b + 3 : Nat) : Int))) = m5 at k5 w32
  generalize ptcs Z (b + 1) [6, I (q : Nat)] = m4b at q5w q5o q5r q5i w32
  have k5' : XCS m0 nm m5 (b + 3) cm t2 false := k5
  refine l_put k5'.1.2.2.1.1 k5'.1.2.2.1.2.2 (fun hb3 => ?_)
  have k6 := XCS_put (x := 0) k5' hb3
  have q6o : ∀ j, j ≠ b + 3 → (ptc m5 (b + 3) 0).2.2.1 23 j = m5.2.2.1 23 j := fun j hj => ptc_o hj
  have q6r : ∀ k, k ≠ 23 → (ptc m5 (b + 3) 0).2.2.1 k = m5.2.2.1 k := fun k hk => ptc_r hk
  have q6i : ∀ k, k ≠ 441 → (ptc m5 (b + 3) 0).1 k = m5.1 k := fun k hk => ptc_i hk
  generalize ptc m5 (b + 3) 0 = m6 at k6 q6o q6r q6i
  have k6' : XCS m0 nm m6 (b + 4) cm t2 false := k6
  have r6 : ∀ k, k ≠ 23 → k ≠ 32 → m6.2.2.1 k = m2.2.2.1 k := fun k h1 h2 => by
    rw [q6r k h1, funext (fun n => w32.2.2.1 k n (Or.inl h2)), q5r k h1, zr k h1]
  have i6 : ∀ k, k ≠ 441 → k ≠ 709 → m6.1 k = m2.1 k := fun k h1 h2 => by rw [q6i k h1, w32.1, q5i k h1, zi k h1 h2]
  have i69 : m6.1 709 = I ((t2.length - 1 : Nat) : Int) := by rw [q6i 709 (by decide), w32.1, q5i 709 (by decide), z9]
  have r32 : m6.2.2.1 32 q = I ((b + 3 : Nat) : Int) := by rw [q6r 32 (by decide)]; exact w32.2.2.2
  have r32o : ∀ j, j ≠ q → m6.2.2.1 32 j = m2.2.2.1 32 j := fun j hj => by rw [q6r 32 (by decide), w32.2.2.1 32 j (Or.inr hj), q5r 32 (by decide), zr 32 (by decide)]
  have m5w : ∀ j, m5.2.2.1 23 j = m4b.2.2.1 23 j := fun j => w32.2.2.1 23 j (Or.inl (by decide))
  refine l_ck (fun _ => l_ck (fun _ => ?_))
  rw [tre (XCS_fr k6') (by decide) h17, tre (XCS_fr k6') (by decide) h20]
  have htk6 : TKh m6 K nm Nk W lo hi := fun j j1 j2 => by
    obtain ⟨t1, t2', t3⟩ := htk j j1 j2
    refine ⟨by rw [r6 6 (by decide) (by decide)]; exact t1, t2', fun k3 => ?_⟩
    obtain ⟨t4, t5, t6, t7⟩ := t3 k3
    exact ⟨by rw [r6 7 (by decide) (by decide)]; exact t4, t5, by rw [r6 42 (by decide) (by decide)]; exact t6, t7⟩
  have bb := k6'.1.2.2.1.2
  refine l_bnd (pk_mo (hdj_p c.2.2.1 ⟨by omega, bb.2⟩ ⟨hlh.1, hlh.2.1⟩ hlh.2.2 k6'.1.2.2.1.1 htk6 i69 (by omega)) (fun m7 r7 h7 => ?_))
  obtain ⟨⟨d1, d2, d3, d4, d5, d6⟩, rfl⟩ := h7
  generalize hd : hdn Nk K W (t2.length - 1) (hi - lo) lo [] = d at d2 d5 d6
  refine l_ck (fun _ => ?_)
  have e32 : m7.2.2.1 32 q = I ((b + 3 : Nat) : Int) := by rw [d3 32 (by decide)]; exact r32
  rw [e32, set_j (by omega), bnd_s]
  refine l_br (fun z711 => ?_) (fun _ => ?_)
  · refine l_br (fun z40 => ?_) (fun _ => ?_)
    · unfold jb_Cm_fun_308 hb_Cm_fun_308
      rw [show decide ((0 : Int32) = 0) = true from rfl, ck_t, show isb 0 = true from rfl, ck_t]
      rw [show upI (upA m7 23 (upd (m7.2.2.1 23) (b + 3) (I (d.length : Nat)))) 711 0 = upA m7 23 (upd (m7.2.2.1 23) (b + 3) (I (d.length : Nat))) from upI_id (of_decide_eq_true z711)]
      refine l_lt ?_
      have l40 : cmC + d.length ≤ 40 := by
        have := of_decide_eq_true z40
        rw [I_add] at this
        have := (I_le (x := ((cmC : Nat) : Int) + ((d.length : Nat) : Int)) (y := 40) (by omega) (by omega) (by decide) (by decide)).mp this
        omega
      have k7 : XCS m0 nm m7 (b + 4 + d.length) cm t2 false := by
        obtain ⟨⟨p1, p2, p3, p4, p5, p6, p7⟩, p8⟩ := k6'
        exact ⟨⟨⟨fun k hk => by rw [d1 k (by omega)]; exact p1.1 k hk, fun k hk => by rw [d3 k (by omega)]; exact p1.2 k hk⟩, ⟨by rw [d1 709 (by decide)]; exact p2.1, p2.2.1, by rw [d1 706 (by decide)]; exact p2.2.2.1, p2.2.2.2.1, CNl_fr p2.2.2.2.2 (d3 40 (by decide)) (fun j _ => by rw [d3 39 (by decide)])⟩, ⟨d2, by omega, d6⟩, by rw [d1 713 (by decide)]; exact p4, by rw [d3 41 (by decide)]; exact p5, p6, p7⟩, by rw [d1 712 (by decide)]; exact p8⟩
      have k8 := XCS_A (k := 23) (f := upd (m7.2.2.1 23) (b + 3) (I (d.length : Nat))) k7 (Or.inl rfl)
      have wS : W46 m7 (upA m7 23 (upd (m7.2.2.1 23) (b + 3) (I (d.length : Nat)))) 23 (b + 3) (I (d.length : Nat)) := w46_of
      generalize upA m7 23 (upd (m7.2.2.1 23) (b + 3) (I (d.length : Nat))) = mF at k8 wS
      have wo : ∀ j, j ≠ b + 3 → mF.2.2.1 23 j = m7.2.2.1 23 j := fun j hj => wS.2.2.1 23 j (Or.inr hj)
      have wr : ∀ k, k ≠ 23 → mF.2.2.1 k = m7.2.2.1 k := fun k hk => funext (fun n => wS.2.2.1 k n (Or.inl hk))
      have low : ∀ j, j < b + 3 → mF.2.2.1 23 j = m4b.2.2.1 23 j := fun j hj => by
        rw [wo j (by omega), d4 j (by omega), q6o j (by omega), m5w j]
      refine hh mF d hd.symm l40 k8 (fun k h1 h2 => by rw [wS.1, d1 k h1, i6 k h1 h2]) (by rw [wS.1, d1 709 (by decide)]; exact i69) (fun k h1 h2 => by rw [wr k h1, d3 k h1, r6 k h1 h2]) (fun j h1 h2 => by rw [low j (by omega), q5o j (by omega), zo j h2 (by omega)]) ⟨by rw [low (a + 1) (by omega), q5o (a + 1) (by omega)]; exact z1, by rw [low b (by omega), q5o b (by omega)]; exact zb, by rw [low (b + 1) (by omega)]; exact q5w 0 6 rfl, by rw [low (b + 2) (by omega)]; exact q5w 1 (I (q : Nat)) rfl, wS.2.2.2⟩ (fun k x hk => by rw [wo (b + 4 + k) (by omega)]; exact d5 k x hk) ⟨by rw [wr 32 (by decide)]; exact e32, fun j hj => by rw [wr 32 (by decide), d3 32 (by decide)]; exact r32o j hj⟩
    · unfold jb_Cm_fun_303 jb_Cm_fun_308
      rw [show decide ((1 : Int32) = 0) = false from rfl]
      exact pp_nl
  · unfold jb_Cm_fun_303 jb_Cm_fun_308
    rw [show decide ((1 : Int32) = 0) = false from rfl]
    exact pp_nl
end
