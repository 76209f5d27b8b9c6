/-! a message comes, a process ENDS: both sides, small steps -/
set_option maxRecDepth 100000
/-- a process has ENDED, there -/
def enS (m : MS) (q : Nat) (t : Int64) (hm e : Nat) : MS := wi (wa (upI (wl (wi m (pq q 9) 3) (pq q 16) t) (pq q 17) (fr (some hm))) 54 e ((q : Nat) : Int)) 955 ((e + 1 : Nat) : Int)
/-- here -/
def enR (w : MS) (q : Nat) (wr o : Int) (t : Int64) (e : Nat) : MS := wi (wj (wa (wa (wa (wa w 109 q 3) 145 e ((q : Nat) : Int)) 146 e wr) 147 e o) 148 e t) 150 ((e + 1 : Nat) : Int)
/-- a message has come, there, here -/
def coS (m : MS) (q Y : Nat) (t : Int64) : MS := wi (wj m (pq q 6) Y t) (pq q 7) ((Y + 1 : Nat) : Int)
def coR (w : MS) (q Y : Nat) (t : Int64) : MS := wa (wj w 107 (30 * q + Y) t) 108 q ((Y + 1 : Nat) : Int)
section
variable {b : Int → Nat → Nat → Prop} {N q r hm e Y U B W f : Nat} {m w : MS} {t x : Int64} {wr o : Int}
theorem comes_e (hY : F m (pq q 7) = ((Y : Nat) : Int)) (h : Y < 30) : hm_Pr_comes N m q t = some (coS m q Y t, ()) := by
  unfold hm_Pr_comes hb_Pr_comes_0 hb_Pr_comes_29
  rw [I_F' hY, show (30 : Int32) = I 30 from rfl, decI (by decide) (by decide) (by omega) (by omega), decide_eq_false (by omega), br_f, show inb (I ((Y : Nat) : Int)) 30 = true from (I_inb (by omega) (by omega)).mpr ⟨by omega, by omega⟩, ck_t, lt_e, tnI (n := Y) rfl (by omega), wj_e, lt_e, show (wj m (pq q 6) Y t).1 (pq q 7) = I ((Y : Nat) : Int) from I_F' hY, show I ((Y : Nat) : Int) + 1 = I ((Y + 1 : Nat) : Int) from addN, wi_e]
  rfl
theorem box_e (hq : q < 24) (hY : A w 108 q = ((Y : Nat) : Int)) (h : Y < 30) : fb_M_message_406 N () w (I q) t = some (coR w q Y t, ()) := by
  unfold fb_M_message_406
  have l1 : inb (I ((q : Nat) : Int)) (ln 108) = true := inb_at (k := 108) (n := 24) rfl (by omega) (by omega) (by decide)
  have ex : I ((q : Nat) : Int) * 30 + I ((Y : Nat) : Int) = I ((30 * q + Y : Nat) : Int) := by
    rw [show (30 : Int32) = I 30 from rfl, I_mul, I_add]
    congr 1
    omega
  have l2 : inb (I ((30 * q + Y : Nat) : Int)) (ln 107) = true := inb_at (k := 107) (n := 720) rfl (by omega) (by omega) (by decide)
  rw [l1, ck_t, tnI (n := q) rfl (by omega), I_A' hY, ex, l2, ck_t, lt_e, tnI (n := 30 * q + Y) rfl (by omega), wj_e, ck_t, ck_t, lt_e, show (wj w 107 (30 * q + Y) t).2.2.1 108 q = I ((Y : Nat) : Int) from I_A' hY, show I ((Y : Nat) : Int) + 1 = I ((Y + 1 : Nat) : Int) from addN, wa_e]
  rfl
theorem PLs_comes (p : PLs b q m w U B W Y) (r : RTb b t x) (hY : Y < 30) : PLs b q (coS m q Y t) (coR w q Y x) U B W (Y + 1) := by
  obtain ⟨⟨⟨p1, p2, p3⟩, p4, p5⟩, ⟨p6, p7, p8⟩, ⟨p9, p10, p11⟩, p12, p13, p14⟩ := p
  have fm : ∀ k, k < 100 → k ≠ 7 → F (coS m q Y t) (pq q k) = F m (pq q k) := fun k hk h7 => by
    unfold coS
    rw [F_wi (by omega) (by omega), if_neg (fun z => h7 (pq_e hk (by omega) z).2), F_wj]
  have jm : ∀ k, k < 100 → k ≠ 6 → (coS m q Y t).2.2.2 (pq q k) = m.2.2.2 (pq q k) := fun k hk h6 => if_neg (fun z => h6 (pq_e hk (by omega) z).2)
  have aw : ∀ k i, k ≠ 108 → A (coR w q Y x) k i = A w k i := fun k i hk => by
    unfold coR
    rw [A_wa (by omega) (by omega), if_neg hk, A_wj]
  have jw : ∀ k, k ≠ 107 → (coR w q Y x).2.2.2 k = w.2.2.2 k := fun k hk => if_neg hk
  refine ⟨⟨⟨by rw [fm 4 (by omega) (by omega)]; exact p1, by rw [aw 89 q (by omega)]; exact p2, p3⟩, ?_, ?_⟩, ⟨by rw [fm 24 (by omega) (by omega)]; exact p6, by rw [aw 94 q (by omega)]; exact p7, fun i hi => ?_⟩, ⟨by rw [fm 26 (by omega) (by omega)]; exact p9, by rw [aw 92 q (by omega)]; exact p10, fun i hi => ?_⟩, ?_, ?_, fun i hi => ?_⟩
  · have e1 : hp (coR w q Y x) q = hp w q := by unfold hp; rw [jw 88 (by omega)]
    rw [jm 2 (by omega) (by omega), e1]
    exact p4
  · show (coS m q Y t).1 (pq q 5) = (coR w q Y x).2.2.1 90 q
    rw [show (coS m q Y t).1 (pq q 5) = m.1 (pq q 5) from if_neg (pq_inj (by omega)), show (coR w q Y x).2.2.1 90 = w.2.2.1 90 from rfl]
    exact p5
  · rw [jm 33 (by omega) (by omega), jw 93 (by omega)]
    exact p8 i hi
  · rw [jm 35 (by omega) (by omega), jw 91 (by omega)]
    exact p11 i hi
  · unfold coS
    rw [F_wi (by omega) (by omega), if_pos rfl]
  · unfold coR
    rw [A_wa (by omega) (by omega), if_pos rfl, if_pos rfl]
  · have e1 : (coS m q Y t).2.2.2 (pq q 6) i = if i = Y then t else m.2.2.2 (pq q 6) i := by show (wj m (pq q 6) Y t).2.2.2 (pq q 6) i = _; exact wj_row
    have e2 : (coR w q Y x).2.2.2 107 (30 * q + i) = if 30 * q + i = 30 * q + Y then x else w.2.2.2 107 (30 * q + i) := by show (wj w 107 (30 * q + Y) x).2.2.2 107 (30 * q + i) = _; exact wj_row
    rw [e1, e2]
    by_cases ei : i = Y
    · rw [if_pos ei, if_pos (by omega)]
      exact r
    · rw [if_neg ei, if_neg (by omega)]
      exact p14 i (by omega)
theorem endsW_e (h9 : F m (pq q 9) ≠ 3) (he : F m 955 = ((e : Nat) : Int)) (hl : e < 24) : hm_Wl_endsWith N m q t hm = some (enS m q t hm e, ()) := by
  unfold hm_Wl_endsWith hb_Wl_endsWith_0 hb_Wl_endsWith_17
  have e9 : (upI (upL (upI m (pq q 9) 3) (pq q 16) t) (pq q 17) (fr (some hm))).1 955 = I ((e : Nat) : Int) := by
    show (if 955 = pq q 17 then fr (some hm) else (if 955 = pq q 9 then 3 else m.1 955)) = _
    rw [if_neg (by unfold pq; omega), if_neg (by unfold pq; omega)]
    exact I_F' he
  have n9 : ¬ m.1 (pq q 9) = 3 := fun z => h9 (by show (m.1 (pq q 9)).toInt = 3; rw [z]; rfl)
  rw [decide_eq_false n9, br_f, I_F' he, show (24 : Int32) = I 24 from rfl, decL (by omega) (by omega) (by decide) (by decide), decide_eq_true (by omega), br_t, lt_e, lt_e, lt_e, e9, show inb (I ((e : Nat) : Int)) 24 = true from (I_inb (by omega) (by omega)).mpr ⟨by omega, by omega⟩, ck_t, lt_e, tnI (n := e) rfl (by omega), lt_e]
  generalize hz : upI (upL (upI m (pq q 9) 3) (pq q 16) t) (pq q 17) (fr (some hm)) = z at e9
  have e8 : (upA z 54 (upd (z.2.2.1 54) e (Int32.ofNat q))).1 955 = I ((e : Nat) : Int) := e9
  rw [e8, show I ((e : Nat) : Int) + 1 = I ((e + 1 : Nat) : Int) from addN, wi_e]
  unfold enS
  rw [← hz]
  rfl
theorem willE_e (hq : q < 25) (h9 : A w 109 q ≠ 3) (he : F w 150 = ((e : Nat) : Int)) (hl : e < 4000) (hq9 : q < 24) : fm_M_willEnd N w (I q) (I wr) (I o) t = some (enR w q wr o t e, ()) := by
  unfold fm_M_willEnd fb_M_willEnd_0 fb_M_willEnd_68
  have l1 : inb (I ((q : Nat) : Int)) (ln 109) = true := inb_at (k := 109) (n := 24) rfl (by omega) (by omega) (by decide)
  have l5 : inb (I ((e : Nat) : Int)) (ln 145) = true := inb_at (k := 145) (n := 4000) rfl (by omega) (by omega) (by decide)
  have l6 : inb (I ((e : Nat) : Int)) (ln 146) = true := inb_at (k := 146) (n := 4000) rfl (by omega) (by omega) (by decide)
  have l7 : inb (I ((e : Nat) : Int)) (ln 147) = true := inb_at (k := 147) (n := 4000) rfl (by omega) (by omega) (by decide)
  have l8 : inb (I ((e : Nat) : Int)) (ln 148) = true := inb_at (k := 148) (n := 4000) rfl (by omega) (by omega) (by decide)
  have n9 : ¬ w.2.2.1 109 q = 3 := fun z => h9 (by show (w.2.2.1 109 q).toInt = 3; rw [z]; rfl)
  have f0 := I_F' he
  rw [l1, ck_t, tnI (n := q) rfl (by omega), decide_eq_false n9, br_f, ck_t, lt_e, show (3 : Int32) = I 3 from rfl, wa_e]
  rw [show (wa w 109 q 3).1 150 = I ((e : Nat) : Int) from f0, l5, ck_t, lt_e, tnI (n := e) rfl (by omega), wa_e]
  rw [show (wa (wa w 109 q 3) 145 e ((q : Nat) : Int)).1 150 = I ((e : Nat) : Int) from f0, l6, ck_t, lt_e, tnI (n := e) rfl (by omega), wa_e]
  rw [show (wa (wa (wa w 109 q 3) 145 e ((q : Nat) : Int)) 146 e wr).1 150 = I ((e : Nat) : Int) from f0, l7, ck_t, lt_e, tnI (n := e) rfl (by omega), wa_e]
  rw [show (wa (wa (wa (wa w 109 q 3) 145 e ((q : Nat) : Int)) 146 e wr) 147 e o).1 150 = I ((e : Nat) : Int) from f0, l8, ck_t, lt_e, tnI (n := e) rfl (by omega), wj_e, lt_e]
  rw [show (wj (wa (wa (wa (wa w 109 q 3) 145 e ((q : Nat) : Int)) 146 e wr) 147 e o) 148 e t).1 150 = I ((e : Nat) : Int) from f0, show I ((e : Nat) : Int) + 1 = I ((e + 1 : Nat) : Int) from addN, wi_e]
  rfl
end
