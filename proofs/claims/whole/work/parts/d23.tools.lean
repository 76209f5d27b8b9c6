/-! both write: a word of code there, a pattern or a node here -/
set_option maxRecDepth 100000
/-- a word is written, there -/
def ptc (m : MS) (a : Nat) (x : Int32) : MS := upI (upA m 23 (upd (m.2.2.1 23) a x)) 441 (I ((a + 1 : Nat) : Int))
/-- a pattern is made, here -/
def nPd (w : MS) (p : Nat) (k : Int32) : MS := upI (upA (upA (upA (upA (upJ (upA w 33 (upd (w.2.2.1 33) p k)) 34 (vp_updL (w.2.2.2 34) p 0)) 35 (upd (w.2.2.1 35) p 0)) 36 (upd (w.2.2.1 36) p (-1))) 37 (upd (w.2.2.1 37) p (-1))) 38 (upd (w.2.2.1 38) p 0)) 39 (I ((p + 1 : Nat) : Int))
/-- a node is made, here -/
def nwD (w : MS) (i : Nat) (k t : Int32) : MS := upI (upA (upA (upA (upA (upA (upA (upA (upA w 23 (upd (w.2.2.1 23) i k)) 24 (upd (w.2.2.1 24) i t)) 25 (upd (w.2.2.1 25) i (-1))) 26 (upd (w.2.2.1 26) i (-1))) 27 (upd (w.2.2.1 27) i (-1))) 28 (upd (w.2.2.1 28) i (-1))) 29 (upd (w.2.2.1 29) i (-1))) 30 (upd (w.2.2.1 30) i 0)) 32 (I ((i + 1 : Nat) : Int))
section
variable {α β : Type} {N a i p : Nat} {m w : MS} {x k t : Int32} {R : MS → α → MS → β → Prop} {A' : Option (MS × α)} {B' : Option (MS × β)} {f : MS → Unit → Option (MS × α)} {g : MS → Int32 → Option (MS × β)}
theorem i_nt2 {p : Nat} (h : p ≤ 100000) : (I (p : Nat)).toNatClampNeg = p := tnI (n := p) rfl (by omega)
theorem putd_e (h : m.1 441 = I (a : Nat)) (ha : a ≤ 23990) : jm_Co_put N m x = if a < 23990 then some (ptc m a x, ()) else none := by
  unfold jm_Co_put
  rw [h, show (23990 : Int32) = I 23990 from rfl, decL (by omega) (by omega) (by decide) (by decide)]
  by_cases z : a < 23990
  · rw [if_pos z, decide_eq_true (by omega), ck_t]
    unfold hm_Co_put hb_Co_put_0 hb_Co_put_30
    rw [h, show (24000 : Int32) = I 24000 from rfl, decI (by decide) (by decide) (by omega) (by omega), decide_eq_false (by omega), br_f, i_inb (by omega) (by decide), ck_t, i_nt2 (by omega), lt_e, lt_e]
    show some (upI (upA m 23 (upd (m.2.2.1 23) a x)) 441 (m.1 441 + 1), ()) = _
    rw [h, i_suc]
    rfl
  · rw [if_neg z, decide_eq_false (by omega)]
    rfl
theorem l_put (h : m.1 441 = I (a : Nat)) (ha : a ≤ 23990) (hk : a < 23990 → PP R (f (ptc m a x) ()) B') : PP R (bnd (jm_Co_put N m x) f) B' := by
  rw [putd_e h ha]
  by_cases z : a < 23990
  · rw [if_pos z, bnd_s]
    exact hk z
  · rw [if_neg z]
    exact pp_nl
theorem ptc_s : (ptc m a x).1 441 = I ((a + 1 : Nat) : Int) := upI_at
theorem ptc_i {j : Nat} (h : j ≠ 441) : (ptc m a x).1 j = m.1 j := upI_ne h
theorem ptc_r {j : Nat} (h : j ≠ 23) : (ptc m a x).2.2.1 j = m.2.2.1 j := upA_no h
theorem ptc_o {j : Nat} (h : j ≠ a) : (ptc m a x).2.2.1 23 j = m.2.2.1 23 j := by
  show (upA m 23 (upd (m.2.2.1 23) a x)).2.2.1 23 j = _
  rw [upA_at, upd_no h]
theorem ptc_n : (ptc m a x).2.2.1 23 a = x := by
  show (upA m 23 (upd (m.2.2.1 23) a x)).2.2.1 23 a = _
  rw [upA_at, upd_at]
theorem pat_e (h : w.1 39 = I (p : Nat)) (hp : p ≤ 5000) (hk : vp_nar .byte (k.toInt8.toInt32) = k) : fm_M_pattern N w k = if p < 5000 then some (nPd w p k, I (p : Nat)) else none := by
  unfold fm_M_pattern fb_M_pattern_0
  rw [hk, show vp_nar .boolean 0 = 0 from rfl, h, i_nt2 (by omega)]
  by_cases z : p < 5000
  · rw [if_pos z, show ln 33 = 5000 from rfl, i_inb z (by decide), ck_t, lt_e]
    have e1 : ∀ (v : MS) (j : Nat) (q : Nat → Int32), (upA v j q).1 39 = v.1 39 := fun _ _ _ => rfl
    have e2 : ∀ (v : MS) (j : Nat) (q : Nat → Int64), (upJ v j q).1 39 = v.1 39 := fun _ _ _ => rfl
    simp only [e1, e2, h, i_nt2 (show p ≤ 100000 by omega), show ln 34 = 5000 from rfl, show ln 35 = 5000 from rfl, show ln 36 = 5000 from rfl, show ln 37 = 5000 from rfl, show ln 38 = 5000 from rfl, i_inb z (show 5000 ≤ 2147483647 by decide), ck_t, lt_e, i_suc]
    rw [upI_at, show ((p + 1 : Nat) : Int) = (p : Int) + 1 by omega, ← I_add, ← lit1, show I (p : Nat) + 1 - 1 = I (p : Nat) by rw [lit1, I_add, I_sub]; congr 1; omega]
    rw [lit1, I_add, show (p : Int) + 1 = ((p + 1 : Nat) : Int) by omega]
    rfl
  · rw [if_neg z]
    have : inb (I (p : Nat)) (ln 33) = false := by
      rw [show ln 33 = 5000 from rfl]
      cases hb : inb (I (p : Nat)) 5000 with
      | false => rfl
      | true => have := (I_inb (by omega) (by omega)).mp hb; omega
    rw [this]
    rfl
theorem r_pat (h : w.1 39 = I (p : Nat)) (hp : p ≤ 5000) (hk : vp_nar .byte (k.toInt8.toInt32) = k) (hh : p < 5000 → PP R A' (g (nPd w p k) (I (p : Nat)))) : PP R A' (bnd (fm_M_pattern N w k) g) := by
  rw [pat_e h hp hk]
  by_cases z : p < 5000
  · rw [if_pos z, bnd_s]
    exact hh z
  · rw [if_neg z]
    exact pp_nr
theorem nwP_n : (nPd w p k).1 39 = I ((p + 1 : Nat) : Int) := upI_at
theorem nwP_i {j : Nat} (h : j ≠ 39) : (nPd w p k).1 j = w.1 j := upI_ne h
theorem nwP_r {j : Nat} (h : j < 33 ∨ 38 < j) : (nPd w p k).2.2.1 j = w.2.2.1 j := by
  show (upA (upA (upA (upA (upJ (upA w 33 (upd (w.2.2.1 33) p k)) 34 (vp_updL (w.2.2.2 34) p 0)) 35 (upd (w.2.2.1 35) p 0)) 36 (upd (w.2.2.1 36) p (-1))) 37 (upd (w.2.2.1 37) p (-1))) 38 (upd (w.2.2.1 38) p 0)).2.2.1 j = _
  rw [upA_no (by omega), upA_no (by omega), upA_no (by omega), upA_no (by omega)]
  show (upA w 33 (upd (w.2.2.1 33) p k)).2.2.1 j = _
  rw [upA_no (by omega)]
theorem nwP_o {j q : Nat} (h : q ≠ p) : (nPd w p k).2.2.1 j q = w.2.2.1 j q := by
  show (if j = 38 then upd (w.2.2.1 38) p 0 else if j = 37 then upd (w.2.2.1 37) p (-1) else if j = 36 then upd (w.2.2.1 36) p (-1) else if j = 35 then upd (w.2.2.1 35) p 0 else if j = 33 then upd (w.2.2.1 33) p k else w.2.2.1 j) q = _
  by_cases h1 : j = 38
  · rw [if_pos h1, upd_no h, h1]
  by_cases h2 : j = 37
  · rw [if_neg h1, if_pos h2, upd_no h, h2]
  by_cases h3 : j = 36
  · rw [if_neg h1, if_neg h2, if_pos h3, upd_no h, h3]
  by_cases h4 : j = 35
  · rw [if_neg h1, if_neg h2, if_neg h3, if_pos h4, upd_no h, h4]
  by_cases h5 : j = 33
  · rw [if_neg h1, if_neg h2, if_neg h3, if_neg h4, if_pos h5, upd_no h, h5]
  · rw [if_neg h1, if_neg h2, if_neg h3, if_neg h4, if_neg h5]
theorem nwP_j {j q : Nat} (h : q ≠ p ∨ j ≠ 34) : (nPd w p k).2.2.2 j q = w.2.2.2 j q := by
  show (if j = 34 then vp_updL (w.2.2.2 34) p 0 else w.2.2.2 j) q = _
  by_cases h1 : j = 34
  · rw [if_pos h1, h1]
    rcases h with h | h
    · exact if_neg h
    · exact absurd h1 h
  · rw [if_neg h1]
theorem nwP_at : (nPd w p k).2.2.1 33 p = k ∧ (nPd w p k).2.2.1 35 p = 0 ∧ (nPd w p k).2.2.1 36 p = -1 ∧ (nPd w p k).2.2.1 37 p = -1 ∧ (nPd w p k).2.2.1 38 p = 0 := ⟨upd_at, upd_at, upd_at, upd_at, upd_at⟩
end
