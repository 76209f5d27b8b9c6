/-! two runs, here, that differ in a literal that waits -/
set_option maxRecDepth 100000
/-- another literal waits uppermost -/
def Zp (p W : Nat) (x : Int64) (u : MS) : MS := (u.1, u.2.1, u.2.2.1, (fun K => if K = 91 then vp_updL (u.2.2.2 91) (46000 * p + W) x else u.2.2.2 K))
def ZIc (p W : Nat) (x : Int64) (u : MS) : Prop := ¬ isH x ∧ ¬ isH (u.2.2.2 91 (46000 * p + W))
/-- what comes of the one comes of the other -/
def CZ {α : Type} (p W : Nat) (x : Int64) (a b : Option (MS × α)) : Prop := ∀ s' r, a = some (s', r) → ∃ s, b = some (s, r) ∧ s' = Zp p W x s ∧ ZIc p W x s
section
variable {α β : Type} {p W : Nat} {x : Int64} {s : MS} {k : Nat}
theorem zr_1 : (Zp p W x s).1 = s.1 := rfl
theorem zr_2 : (Zp p W x s).2.1 = s.2.1 := rfl
theorem zr_A (_ : k ≠ 92) : (Zp p W x s).2.2.1 k = s.2.2.1 k := rfl
theorem zr_J (h : k ≠ 91) : (Zp p W x s).2.2.2 k = s.2.2.2 k := if_neg h
theorem cz_none {b : Option (MS × α)} : CZ p W x none b := fun _ _ e => by cases e
theorem cz_some {r r' : α} (e : r' = r) (h : ZIc p W x s) : CZ p W x (some (Zp p W x s, r')) (some (s, r)) := fun s' r2 e2 => by
  injection e2 with e2
  injection e2 with e3 e4
  exact ⟨s, by rw [← e, ← e4], e3.symm, h⟩
theorem cz_ck {c c' : Bool} {a b : Option (MS × α)} (e : c' = c) (h : CZ p W x a b) : CZ p W x (ck c' a) (ck c b) := by
  subst e
  cases c'
  · exact cz_none
  · exact h
theorem cz_br {c c' : Bool} {a b a2 b2 : Option (MS × α)} (e : c' = c) (h : CZ p W x a b) (h2 : CZ p W x a2 b2) : CZ p W x (br c' a a2) (br c b b2) := by
  subst e
  cases c'
  · exact h2
  · exact h
theorem cz_bnd {a b : Option (MS × β)} {f g : MS → β → Option (MS × α)} (h1 : CZ p W x a b) (h2 : ∀ s r, ZIc p W x s → CZ p W x (f (Zp p W x s) r) (g s r)) : CZ p W x (bnd a f) (bnd b g) := by
  cases a with
  | none => exact cz_none
  | some z =>
    obtain ⟨s', r⟩ := z
    obtain ⟨s, e1, e2, e3⟩ := h1 s' r rfl
    subst e1
    subst e2
    exact h2 s r e3
theorem cz_ltv {y y' : β} {f g : β → Option (MS × α)} (e : y' = y) (h : ∀ z, CZ p W x (f z) (g z)) : CZ p W x (lt y' f) (lt y g) := by
  subst e
  exact h y'
theorem zp_A {r : Nat → Int32} (_ : k ≠ 92) : upA (Zp p W x s) k r = Zp p W x (upA s k r) := rfl
theorem zp_J {r : Nat → Int64} (hk : k ≠ 91) : upJ (Zp p W x s) k r = Zp p W x (upJ s k r) := by
  refine Prod.ext rfl (Prod.ext rfl (Prod.ext rfl (funext (fun K => ?_))))
  by_cases c : K = 91
  · subst c
    show (if (91 : Nat) = k then r else if (91 : Nat) = 91 then vp_updL (s.2.2.2 91) (46000 * p + W) x else s.2.2.2 91) = (if (91 : Nat) = 91 then vp_updL (if (91 : Nat) = k then r else s.2.2.2 91) (46000 * p + W) x else if (91 : Nat) = k then r else s.2.2.2 91)
    rw [if_neg (Ne.symm hk), if_pos rfl, if_pos rfl, if_neg (Ne.symm hk)]
  · show (if K = k then r else if K = 91 then vp_updL (s.2.2.2 91) (46000 * p + W) x else s.2.2.2 K) = (if K = 91 then vp_updL (if (91 : Nat) = k then r else s.2.2.2 91) (46000 * p + W) x else if K = k then r else s.2.2.2 K)
    rw [if_neg c, if_neg c]
theorem zi_A {r : Nat → Int32} (_ : k ≠ 92) (h : ZIc p W x s) : ZIc p W x (upA s k r) := h
theorem zi_J {r : Nat → Int64} (hk : k ≠ 91) (h : ZIc p W x s) : ZIc p W x (upJ s k r) := by
  refine ⟨h.1, ?_⟩
  show ¬ isH ((if (91 : Nat) = k then r else s.2.2.2 91) (46000 * p + W))
  rw [if_neg (Ne.symm hk)]
  exact h.2
theorem cz_A {r r' : Nat → Int32} {f g : MS → Option (MS × α)} (hk : k ≠ 92) (e : r' = r) (h : ZIc p W x s) (kk : ZIc p W x (upA s k r) → CZ p W x (f (Zp p W x (upA s k r))) (g (upA s k r))) : CZ p W x (lt (upA (Zp p W x s) k r') f) (lt (upA s k r) g) := by
  subst e
  show CZ p W x (f (upA (Zp p W x s) k r')) (g (upA s k r'))
  rw [zp_A hk]
  exact kk (zi_A hk h)
theorem cz_J {r r' : Nat → Int64} {f g : MS → Option (MS × α)} (hk : k ≠ 91) (e : r' = r) (h : ZIc p W x s) (kk : ZIc p W x (upJ s k r) → CZ p W x (f (Zp p W x (upJ s k r))) (g (upJ s k r))) : CZ p W x (lt (upJ (Zp p W x s) k r') f) (lt (upJ s k r) g) := by
  subst e
  show CZ p W x (f (upJ (Zp p W x s) k r')) (g (upJ s k r'))
  rw [zp_J hk]
  exact kk (zi_J hk h)
theorem cz_I {r r' : Int32} {f g : MS → Option (MS × α)} (e : r' = r) (h : ZIc p W x s) (kk : ZIc p W x (upI s k r) → CZ p W x (f (Zp p W x (upI s k r))) (g (upI s k r))) : CZ p W x (lt (upI (Zp p W x s) k r') f) (lt (upI s k r) g) := by
  subst e
  exact kk h
theorem cz_L {r r' : Int64} {f g : MS → Option (MS × α)} (e : r' = r) (h : ZIc p W x s) (kk : ZIc p W x (upL s k r) → CZ p W x (f (Zp p W x (upL s k r))) (g (upL s k r))) : CZ p W x (lt (upL (Zp p W x s) k r') f) (lt (upL s k r) g) := by
  subst e
  exact kk h
end
section
variable {N p W : Nat} {x : Int64} {u : MS}
theorem zc_fb_M_term_0 {v0 v0' : Int32} {v1 v1' : Int32} {G' G : Unit} (h : ZIc p W x u) (e_v0 : v0' = v0) (e_v1 : v1' = v1)  : CZ p W x (fb_M_term_0 N G' (Zp p W x u) v0' v1') (fb_M_term_0 N G u v0 v1) := by
  subst e_v0
  subst e_v1
  unfold fb_M_term_0
  repeat' (first | with_reducible rfl | with_reducible assumption | with_reducible refine cz_br ?_ ?_ ?_ | with_reducible refine cz_bnd ?_ (fun _ _ _ => ?_) | with_reducible refine cz_ck ?_ ?_ | with_reducible refine cz_some ?_ (by assumption) | with_reducible refine cz_A (by first | decide | exact And.right (by assumption)) ?_ (by assumption) (fun _ => ?_) | with_reducible refine cz_J (by first | decide | exact And.left (by assumption)) ?_ (by assumption) (fun _ => ?_) | with_reducible refine cz_I ?_ (by assumption) (fun _ => ?_) | with_reducible refine cz_L ?_ (by assumption) (fun _ => ?_) | with_reducible refine cz_ltv ?_ (fun _ => ?_) | (show _ = _; simp only [zr_1, zr_2]) | rfl)
theorem zc_fm_M_term {v0 v0' : Int32} {v1 v1' : Int32} (h : ZIc p W x u) (e_v0 : v0' = v0) (e_v1 : v1' = v1) : CZ p W x (fm_M_term N (Zp p W x u) v0' v1') (fm_M_term N u v0 v1) := by
  subst e_v0
  subst e_v1
  unfold fm_M_term
  exact zc_fb_M_term_0 h rfl rfl
theorem zc_fb_M_sortOf_0 {v0 v0' : Int64} {G' G : Unit} (h : ZIc p W x u) (e_v0 : v0' = v0)  : CZ p W x (fb_M_sortOf_0 N G' (Zp p W x u) v0') (fb_M_sortOf_0 N G u v0) := by
  subst e_v0
  unfold fb_M_sortOf_0
  repeat' (first | with_reducible rfl | with_reducible assumption | with_reducible refine cz_br ?_ ?_ ?_ | with_reducible refine cz_bnd ?_ (fun _ _ _ => ?_) | with_reducible refine cz_ck ?_ ?_ | with_reducible refine cz_some ?_ (by assumption) | with_reducible refine cz_A (by first | decide | exact And.right (by assumption)) ?_ (by assumption) (fun _ => ?_) | with_reducible refine cz_J (by first | decide | exact And.left (by assumption)) ?_ (by assumption) (fun _ => ?_) | with_reducible refine cz_I ?_ (by assumption) (fun _ => ?_) | with_reducible refine cz_L ?_ (by assumption) (fun _ => ?_) | with_reducible refine cz_ltv ?_ (fun _ => ?_) | (show _ = _; simp only [zr_1, zr_2]) | rfl)
theorem zc_fm_M_sortOf {v0 v0' : Int64} (h : ZIc p W x u) (e_v0 : v0' = v0) : CZ p W x (fm_M_sortOf N (Zp p W x u) v0') (fm_M_sortOf N u v0) := by
  subst e_v0
  unfold fm_M_sortOf
  exact zc_fb_M_sortOf_0 h rfl
theorem zc_fb_M_valueOf_0 {v0 v0' : Int64} {G' G : Unit} (h : ZIc p W x u) (e_v0 : v0' = v0)  : CZ p W x (fb_M_valueOf_0 N G' (Zp p W x u) v0') (fb_M_valueOf_0 N G u v0) := by
  subst e_v0
  unfold fb_M_valueOf_0
  repeat' (first | with_reducible rfl | with_reducible assumption | with_reducible refine cz_br ?_ ?_ ?_ | with_reducible refine cz_bnd ?_ (fun _ _ _ => ?_) | with_reducible refine cz_ck ?_ ?_ | with_reducible refine cz_some ?_ (by assumption) | with_reducible refine cz_A (by first | decide | exact And.right (by assumption)) ?_ (by assumption) (fun _ => ?_) | with_reducible refine cz_J (by first | decide | exact And.left (by assumption)) ?_ (by assumption) (fun _ => ?_) | with_reducible refine cz_I ?_ (by assumption) (fun _ => ?_) | with_reducible refine cz_L ?_ (by assumption) (fun _ => ?_) | with_reducible refine cz_ltv ?_ (fun _ => ?_) | (show _ = _; simp only [zr_1, zr_2]) | rfl)
theorem zc_fm_M_valueOf {v0 v0' : Int64} (h : ZIc p W x u) (e_v0 : v0' = v0) : CZ p W x (fm_M_valueOf N (Zp p W x u) v0') (fm_M_valueOf N u v0) := by
  subst e_v0
  unfold fm_M_valueOf
  exact zc_fb_M_valueOf_0 h rfl
theorem zc_fb_M_inHeap_26 {t0 t0' : Int32} {G' G : Unit} (h : ZIc p W x u) (e_t0 : t0' = t0)  : CZ p W x (fb_M_inHeap_26 N G' (Zp p W x u) t0') (fb_M_inHeap_26 N G u t0) := by
  subst e_t0
  unfold fb_M_inHeap_26
  repeat' (first | with_reducible rfl | with_reducible assumption | with_reducible refine cz_br ?_ ?_ ?_ | with_reducible refine cz_bnd ?_ (fun _ _ _ => ?_) | with_reducible refine cz_ck ?_ ?_ | with_reducible refine cz_some ?_ (by assumption) | with_reducible refine cz_A (by first | decide | exact And.right (by assumption)) ?_ (by assumption) (fun _ => ?_) | with_reducible refine cz_J (by first | decide | exact And.left (by assumption)) ?_ (by assumption) (fun _ => ?_) | with_reducible refine cz_I ?_ (by assumption) (fun _ => ?_) | with_reducible refine cz_L ?_ (by assumption) (fun _ => ?_) | with_reducible refine cz_ltv ?_ (fun _ => ?_) | (show _ = _; simp only [zr_1, zr_2]) | rfl)
theorem zc_fb_M_inHeap_21 {G' G : Unit} (h : ZIc p W x u)  : CZ p W x (fb_M_inHeap_21 N G' (Zp p W x u)) (fb_M_inHeap_21 N G u) := by
  unfold fb_M_inHeap_21
  repeat' (first | with_reducible rfl | with_reducible assumption | with_reducible refine cz_br ?_ ?_ ?_ | with_reducible refine cz_bnd ?_ (fun _ _ _ => ?_) | with_reducible refine cz_ck ?_ ?_ | with_reducible refine cz_some ?_ (by assumption) | with_reducible refine cz_A (by first | decide | exact And.right (by assumption)) ?_ (by assumption) (fun _ => ?_) | with_reducible refine cz_J (by first | decide | exact And.left (by assumption)) ?_ (by assumption) (fun _ => ?_) | with_reducible refine cz_I ?_ (by assumption) (fun _ => ?_) | with_reducible refine cz_L ?_ (by assumption) (fun _ => ?_) | with_reducible refine zc_fb_M_inHeap_26 (by assumption) ?_ | with_reducible refine cz_ltv ?_ (fun _ => ?_) | (show _ = _; simp only [zr_1, zr_2]) | rfl)
theorem zc_fb_M_inHeap_0 {v0 v0' : Int64} {G' G : Unit} (h : ZIc p W x u) (e_v0 : v0' = v0)  : CZ p W x (fb_M_inHeap_0 N G' (Zp p W x u) v0') (fb_M_inHeap_0 N G u v0) := by
  subst e_v0
  unfold fb_M_inHeap_0
  repeat' (first | with_reducible rfl | with_reducible assumption | with_reducible refine cz_br ?_ ?_ ?_ | with_reducible refine cz_bnd ?_ (fun _ _ _ => ?_) | with_reducible refine cz_ck ?_ ?_ | with_reducible refine cz_some ?_ (by assumption) | with_reducible refine cz_A (by first | decide | exact And.right (by assumption)) ?_ (by assumption) (fun _ => ?_) | with_reducible refine cz_J (by first | decide | exact And.left (by assumption)) ?_ (by assumption) (fun _ => ?_) | with_reducible refine cz_I ?_ (by assumption) (fun _ => ?_) | with_reducible refine cz_L ?_ (by assumption) (fun _ => ?_) | with_reducible refine zc_fb_M_inHeap_26 (by assumption) ?_ | with_reducible refine zc_fb_M_inHeap_21 (by assumption) | with_reducible refine zc_fm_M_sortOf (by assumption) ?_ | with_reducible refine cz_ltv ?_ (fun _ => ?_) | (show _ = _; simp only [zr_1, zr_2]) | rfl)
theorem zc_fm_M_inHeap {v0 v0' : Int64} (h : ZIc p W x u) (e_v0 : v0' = v0) : CZ p W x (fm_M_inHeap N (Zp p W x u) v0') (fm_M_inHeap N u v0) := by
  subst e_v0
  unfold fm_M_inHeap
  exact zc_fb_M_inHeap_0 h rfl
theorem zc_fb_M_cell_0 {v1 v1' : Int32} {v2 v2' : Int32} {G' G : Unit} (h : ZIc p W x u) (e_v1 : v1' = v1) (e_v2 : v2' = v2)  : CZ p W x (fb_M_cell_0 N G' (Zp p W x u) v1' v2') (fb_M_cell_0 N G u v1 v2) := by
  subst e_v1
  subst e_v2
  unfold fb_M_cell_0
  repeat' (first | with_reducible rfl | with_reducible assumption | with_reducible refine cz_br ?_ ?_ ?_ | with_reducible refine cz_bnd ?_ (fun _ _ _ => ?_) | with_reducible refine cz_ck ?_ ?_ | with_reducible refine cz_some ?_ (by assumption) | with_reducible refine cz_A (by first | decide | exact And.right (by assumption)) ?_ (by assumption) (fun _ => ?_) | with_reducible refine cz_J (by first | decide | exact And.left (by assumption)) ?_ (by assumption) (fun _ => ?_) | with_reducible refine cz_I ?_ (by assumption) (fun _ => ?_) | with_reducible refine cz_L ?_ (by assumption) (fun _ => ?_) | with_reducible refine cz_ltv ?_ (fun _ => ?_) | (show _ = _; simp only [zr_1, zr_2, zr_J (k := 88) (by decide)]) | rfl)
theorem zc_fm_M_cell {v1 v1' : Int32} {v2 v2' : Int32} (h : ZIc p W x u) (e_v1 : v1' = v1) (e_v2 : v2' = v2) : CZ p W x (fm_M_cell N (Zp p W x u) v1' v2') (fm_M_cell N u v1 v2) := by
  subst e_v1
  subst e_v2
  unfold fm_M_cell
  exact zc_fb_M_cell_0 h rfl rfl
theorem zc_fb_M_sizeOf_64 {t0 t0' : Int32} {G' G : Unit} (h : ZIc p W x u) (e_t0 : t0' = t0)  : CZ p W x (fb_M_sizeOf_64 N G' (Zp p W x u) t0') (fb_M_sizeOf_64 N G u t0) := by
  subst e_t0
  unfold fb_M_sizeOf_64
  repeat' (first | with_reducible rfl | with_reducible assumption | with_reducible refine cz_br ?_ ?_ ?_ | with_reducible refine cz_bnd ?_ (fun _ _ _ => ?_) | with_reducible refine cz_ck ?_ ?_ | with_reducible refine cz_some ?_ (by assumption) | with_reducible refine cz_A (by first | decide | exact And.right (by assumption)) ?_ (by assumption) (fun _ => ?_) | with_reducible refine cz_J (by first | decide | exact And.left (by assumption)) ?_ (by assumption) (fun _ => ?_) | with_reducible refine cz_I ?_ (by assumption) (fun _ => ?_) | with_reducible refine cz_L ?_ (by assumption) (fun _ => ?_) | with_reducible refine cz_ltv ?_ (fun _ => ?_) | (show _ = _; simp only [zr_1, zr_2]) | rfl)
theorem zc_fb_M_sizeOf_0 {v1 v1' : Int32} {v2 v2' : Int64} {G' G : Unit} (h : ZIc p W x u) (e_v1 : v1' = v1) (e_v2 : v2' = v2)  : CZ p W x (fb_M_sizeOf_0 N G' (Zp p W x u) v1' v2') (fb_M_sizeOf_0 N G u v1 v2) := by
  subst e_v1
  subst e_v2
  unfold fb_M_sizeOf_0
  repeat' (first | with_reducible rfl | with_reducible assumption | with_reducible refine cz_br ?_ ?_ ?_ | with_reducible refine cz_bnd ?_ (fun _ _ _ => ?_) | with_reducible refine cz_ck ?_ ?_ | with_reducible refine cz_some ?_ (by assumption) | with_reducible refine cz_A (by first | decide | exact And.right (by assumption)) ?_ (by assumption) (fun _ => ?_) | with_reducible refine cz_J (by first | decide | exact And.left (by assumption)) ?_ (by assumption) (fun _ => ?_) | with_reducible refine cz_I ?_ (by assumption) (fun _ => ?_) | with_reducible refine cz_L ?_ (by assumption) (fun _ => ?_) | with_reducible refine zc_fb_M_sizeOf_64 (by assumption) ?_ | with_reducible refine zc_fm_M_cell (by assumption) ?_ ?_ | with_reducible refine zc_fm_M_valueOf (by assumption) ?_ | with_reducible refine zc_fm_M_sortOf (by assumption) ?_ | with_reducible refine cz_ltv ?_ (fun _ => ?_) | (show _ = _; simp only [zr_1, zr_2]) | rfl)
theorem zc_fm_M_sizeOf {v1 v1' : Int32} {v2 v2' : Int64} (h : ZIc p W x u) (e_v1 : v1' = v1) (e_v2 : v2' = v2) : CZ p W x (fm_M_sizeOf N (Zp p W x u) v1' v2') (fm_M_sizeOf N u v1 v2) := by
  subst e_v1
  subst e_v2
  unfold fm_M_sizeOf
  exact zc_fb_M_sizeOf_0 h rfl rfl
theorem zc_fb_M_partsFrom_25 {t0 t0' : Int32} {G' G : Unit} (h : ZIc p W x u) (e_t0 : t0' = t0)  : CZ p W x (fb_M_partsFrom_25 N G' (Zp p W x u) t0') (fb_M_partsFrom_25 N G u t0) := by
  subst e_t0
  unfold fb_M_partsFrom_25
  repeat' (first | with_reducible rfl | with_reducible assumption | with_reducible refine cz_br ?_ ?_ ?_ | with_reducible refine cz_bnd ?_ (fun _ _ _ => ?_) | with_reducible refine cz_ck ?_ ?_ | with_reducible refine cz_some ?_ (by assumption) | with_reducible refine cz_A (by first | decide | exact And.right (by assumption)) ?_ (by assumption) (fun _ => ?_) | with_reducible refine cz_J (by first | decide | exact And.left (by assumption)) ?_ (by assumption) (fun _ => ?_) | with_reducible refine cz_I ?_ (by assumption) (fun _ => ?_) | with_reducible refine cz_L ?_ (by assumption) (fun _ => ?_) | with_reducible refine cz_ltv ?_ (fun _ => ?_) | (show _ = _; simp only [zr_1, zr_2]) | rfl)
theorem zc_fb_M_partsFrom_0 {v0 v0' : Int64} {G' G : Unit} (h : ZIc p W x u) (e_v0 : v0' = v0)  : CZ p W x (fb_M_partsFrom_0 N G' (Zp p W x u) v0') (fb_M_partsFrom_0 N G u v0) := by
  subst e_v0
  unfold fb_M_partsFrom_0
  repeat' (first | with_reducible rfl | with_reducible assumption | with_reducible refine cz_br ?_ ?_ ?_ | with_reducible refine cz_bnd ?_ (fun _ _ _ => ?_) | with_reducible refine cz_ck ?_ ?_ | with_reducible refine cz_some ?_ (by assumption) | with_reducible refine cz_A (by first | decide | exact And.right (by assumption)) ?_ (by assumption) (fun _ => ?_) | with_reducible refine cz_J (by first | decide | exact And.left (by assumption)) ?_ (by assumption) (fun _ => ?_) | with_reducible refine cz_I ?_ (by assumption) (fun _ => ?_) | with_reducible refine cz_L ?_ (by assumption) (fun _ => ?_) | with_reducible refine zc_fb_M_partsFrom_25 (by assumption) ?_ | with_reducible refine zc_fm_M_sortOf (by assumption) ?_ | with_reducible refine cz_ltv ?_ (fun _ => ?_) | (show _ = _; simp only [zr_1, zr_2]) | rfl)
theorem zc_fm_M_partsFrom {v0 v0' : Int64} (h : ZIc p W x u) (e_v0 : v0' = v0) : CZ p W x (fm_M_partsFrom N (Zp p W x u) v0') (fm_M_partsFrom N u v0) := by
  subst e_v0
  unfold fm_M_partsFrom
  exact zc_fb_M_partsFrom_0 h rfl
theorem zc_fb_M_carried_124 {v2 v2' : Int64} {v4 v4' : Int32} {G' G : (MS → Int32 → Int64 → Int32 → Int32 → Int32 → Option (MS × Int64))} (h : ZIc p W x u) (e_v2 : v2' = v2) (e_v4 : v4' = v4) (hG0 : ∀ (s : MS) (a0 b0 : Int32) (a1 b1 : Int64) (a2 b2 : Int32) (a3 b3 : Int32) (a4 b4 : Int32), ZIc p W x s → b0 = a0 → b1 = a1 → b2 = a2 → b3 = a3 → b4 = a4 → CZ p W x (G' (Zp p W x s) b0 b1 b2 b3 b4) (G s a0 a1 a2 a3 a4)) : CZ p W x (fb_M_carried_124 N G' (Zp p W x u) v2' v4') (fb_M_carried_124 N G u v2 v4) := by
  subst e_v2
  subst e_v4
  unfold fb_M_carried_124
  repeat' (first | with_reducible rfl | with_reducible assumption | with_reducible refine cz_br ?_ ?_ ?_ | with_reducible refine cz_bnd ?_ (fun _ _ _ => ?_) | with_reducible refine cz_ck ?_ ?_ | with_reducible refine cz_some ?_ (by assumption) | with_reducible refine cz_A (by first | decide | exact And.right (by assumption)) ?_ (by assumption) (fun _ => ?_) | with_reducible refine cz_J (by first | decide | exact And.left (by assumption)) ?_ (by assumption) (fun _ => ?_) | with_reducible refine cz_I ?_ (by assumption) (fun _ => ?_) | with_reducible refine cz_L ?_ (by assumption) (fun _ => ?_) | with_reducible refine hG0 _ _ _ _ _ _ _ _ _ _ _ (by assumption) ?_ ?_ ?_ ?_ ?_ | with_reducible refine cz_ltv ?_ (fun _ => ?_) | (show _ = _; simp only [zr_1, zr_2, zr_A (k := 135) (by decide)]) | rfl)
theorem zc_fb_M_carried_48 {v1 v1' : Int32} {v2 v2' : Int64} {v4 v4' : Int32} {v5 v5' : Int32} {v6 v6' : Int32} {G' G : (MS → Int32 → Int64 → Int32 → Int32 → Int32 → Option (MS × Int64))} (h : ZIc p W x u) (e_v1 : v1' = v1) (e_v2 : v2' = v2) (e_v4 : v4' = v4) (e_v5 : v5' = v5) (e_v6 : v6' = v6) (hG0 : ∀ (s : MS) (a0 b0 : Int32) (a1 b1 : Int64) (a2 b2 : Int32) (a3 b3 : Int32) (a4 b4 : Int32), ZIc p W x s → b0 = a0 → b1 = a1 → b2 = a2 → b3 = a3 → b4 = a4 → CZ p W x (G' (Zp p W x s) b0 b1 b2 b3 b4) (G s a0 a1 a2 a3 a4)) : CZ p W x (fb_M_carried_48 N G' (Zp p W x u) v1' v2' v4' v5' v6') (fb_M_carried_48 N G u v1 v2 v4 v5 v6) := by
  subst e_v1
  subst e_v2
  subst e_v4
  subst e_v5
  subst e_v6
  unfold fb_M_carried_48
  repeat' (first | with_reducible rfl | with_reducible assumption | with_reducible refine cz_br ?_ ?_ ?_ | with_reducible refine cz_bnd ?_ (fun _ _ _ => ?_) | with_reducible refine cz_ck ?_ ?_ | with_reducible refine cz_some ?_ (by assumption) | with_reducible refine cz_A (by first | decide | exact And.right (by assumption)) ?_ (by assumption) (fun _ => ?_) | with_reducible refine cz_J (by first | decide | exact And.left (by assumption)) ?_ (by assumption) (fun _ => ?_) | with_reducible refine cz_I ?_ (by assumption) (fun _ => ?_) | with_reducible refine cz_L ?_ (by assumption) (fun _ => ?_) | with_reducible refine zc_fb_M_carried_124 (by assumption) ?_ ?_ hG0 | with_reducible refine zc_fm_M_cell (by assumption) ?_ ?_ | with_reducible refine hG0 _ _ _ _ _ _ _ _ _ _ _ (by assumption) ?_ ?_ ?_ ?_ ?_ | with_reducible refine cz_ltv ?_ (fun _ => ?_) | (show _ = _; simp only [zr_1, zr_2, zr_J (k := 134) (by decide), zr_J (k := 137) (by decide)]) | rfl)
theorem zc_fb_M_carried_0 {v1 v1' : Int32} {v2 v2' : Int64} {G' G : (MS → Int32 → Int64 → Int32 → Int32 → Int32 → Option (MS × Int64))} (h : ZIc p W x u) (e_v1 : v1' = v1) (e_v2 : v2' = v2) (hG0 : ∀ (s : MS) (a0 b0 : Int32) (a1 b1 : Int64) (a2 b2 : Int32) (a3 b3 : Int32) (a4 b4 : Int32), ZIc p W x s → b0 = a0 → b1 = a1 → b2 = a2 → b3 = a3 → b4 = a4 → CZ p W x (G' (Zp p W x s) b0 b1 b2 b3 b4) (G s a0 a1 a2 a3 a4)) : CZ p W x (fb_M_carried_0 N G' (Zp p W x u) v1' v2') (fb_M_carried_0 N G u v1 v2) := by
  subst e_v1
  subst e_v2
  unfold fb_M_carried_0
  repeat' (first | with_reducible rfl | with_reducible assumption | with_reducible refine cz_br ?_ ?_ ?_ | with_reducible refine cz_bnd ?_ (fun _ _ _ => ?_) | with_reducible refine cz_ck ?_ ?_ | with_reducible refine cz_some ?_ (by assumption) | with_reducible refine cz_A (by first | decide | exact And.right (by assumption)) ?_ (by assumption) (fun _ => ?_) | with_reducible refine cz_J (by first | decide | exact And.left (by assumption)) ?_ (by assumption) (fun _ => ?_) | with_reducible refine cz_I ?_ (by assumption) (fun _ => ?_) | with_reducible refine cz_L ?_ (by assumption) (fun _ => ?_) | with_reducible refine zc_fb_M_carried_124 (by assumption) ?_ ?_ hG0 | with_reducible refine zc_fm_M_sizeOf (by assumption) ?_ ?_ | with_reducible refine zc_fm_M_valueOf (by assumption) ?_ | with_reducible refine zc_fm_M_inHeap (by assumption) ?_ | with_reducible refine hG0 _ _ _ _ _ _ _ _ _ _ _ (by assumption) ?_ ?_ ?_ ?_ ?_ | with_reducible refine cz_ltv ?_ (fun _ => ?_) | (show _ = _; simp only [zr_1, zr_2, zr_A (k := 135) (by decide)]) | rfl)
theorem zc_gg_M_carried : ∀ (n n' : Nat), n ≤ n' → (∀ (s : MS) (a0 b0 : Int32) (a1 b1 : Int64) (a2 b2 : Int32) (a3 b3 : Int32) (a4 b4 : Int32), ZIc p W x s → b0 = a0 → b1 = a1 → b2 = a2 → b3 = a3 → b4 = a4 → CZ p W x ((gg_M_carried N n) (Zp p W x s) b0 b1 b2 b3 b4) ((gg_M_carried N n') s a0 a1 a2 a3 a4)) := by
  intro n
  induction n with
  | zero => intro n' _; exact fun _ _ _ _ _ _ _ _ _ _ _ _ _ _ _ _ _ => cz_none
  | succ n ih =>
    intro n' hn
    cases n' with
    | zero => omega
    | succ n' =>
    have ih' := ih n' (by omega)
    exact fun _ _ _ _ _ _ _ _ _ _ _ h e0 e1 e2 e3 e4 => zc_fb_M_carried_48 (N := N) h e0 e1 e2 e3 e4 ih'
theorem zc_fm_M_carried {v1 v1' : Int32} {v2 v2' : Int64} (h : ZIc p W x u) (e_v1 : v1' = v1) (e_v2 : v2' = v2) : CZ p W x (fm_M_carried N (Zp p W x u) v1' v2') (fm_M_carried N u v1 v2) := by
  subst e_v1
  subst e_v2
  unfold fm_M_carried
  exact zc_fb_M_carried_0 h rfl rfl ((zc_gg_M_carried N N (Nat.le_refl _)))
theorem zc_fb_M_clear_337 {v1 v1' : Int32} {v2 v2' : Int32} {G' G : (MS → Int32 → Int32 → Option (MS × Unit)) × (MS → Int32 → Int32 → Option (MS × Unit)) × (MS → Int32 → Int32 → Option (MS × Unit)) × (MS → Int32 → Int32 → Option (MS × Unit)) × (MS → Int32 → Int32 → Option (MS × Unit)) × (MS → Int32 → Int32 → Int32 → Int32 → Int32 → Option (MS × Unit)) × (MS → Int32 → Int32 → Option (MS × Unit))} (h : ZIc p W x u) (e_v1 : v1' = v1) (e_v2 : v2' = v2) (hG0 : ∀ (s : MS) (a0 b0 : Int32) (a1 b1 : Int32), ZIc p W x s → b0 = a0 → b1 = a1 → CZ p W x (G'.1 (Zp p W x s) b0 b1) (G.1 s a0 a1)) (hG1 : ∀ (s : MS) (a0 b0 : Int32) (a1 b1 : Int32), ZIc p W x s → b0 = a0 → b1 = a1 → CZ p W x (G'.2.1 (Zp p W x s) b0 b1) (G.2.1 s a0 a1)) (hG2 : ∀ (s : MS) (a0 b0 : Int32) (a1 b1 : Int32), ZIc p W x s → b0 = a0 → b1 = a1 → CZ p W x (G'.2.2.1 (Zp p W x s) b0 b1) (G.2.2.1 s a0 a1)) (hG3 : ∀ (s : MS) (a0 b0 : Int32) (a1 b1 : Int32), ZIc p W x s → b0 = a0 → b1 = a1 → CZ p W x (G'.2.2.2.1 (Zp p W x s) b0 b1) (G.2.2.2.1 s a0 a1)) (hG4 : ∀ (s : MS) (a0 b0 : Int32) (a1 b1 : Int32), ZIc p W x s → b0 = a0 → b1 = a1 → CZ p W x (G'.2.2.2.2.1 (Zp p W x s) b0 b1) (G.2.2.2.2.1 s a0 a1)) (hG5 : ∀ (s : MS) (a0 b0 : Int32) (a1 b1 : Int32) (a2 b2 : Int32) (a3 b3 : Int32) (a4 b4 : Int32), ZIc p W x s → b0 = a0 → b1 = a1 → b2 = a2 → b3 = a3 → b4 = a4 → CZ p W x (G'.2.2.2.2.2.1 (Zp p W x s) b0 b1 b2 b3 b4) (G.2.2.2.2.2.1 s a0 a1 a2 a3 a4)) (hG6 : ∀ (s : MS) (a0 b0 : Int32) (a1 b1 : Int32), ZIc p W x s → b0 = a0 → b1 = a1 → CZ p W x (G'.2.2.2.2.2.2 (Zp p W x s) b0 b1) (G.2.2.2.2.2.2 s a0 a1)) : CZ p W x (fb_M_clear_337 N G' (Zp p W x u) v1' v2') (fb_M_clear_337 N G u v1 v2) := by
  subst e_v1
  subst e_v2
  unfold fb_M_clear_337
  repeat' (first | with_reducible rfl | with_reducible assumption | with_reducible refine cz_br ?_ ?_ ?_ | with_reducible refine cz_bnd ?_ (fun _ _ _ => ?_) | with_reducible refine cz_ck ?_ ?_ | with_reducible refine cz_some ?_ (by assumption) | with_reducible refine cz_A (by first | decide | exact And.right (by assumption)) ?_ (by assumption) (fun _ => ?_) | with_reducible refine cz_J (by first | decide | exact And.left (by assumption)) ?_ (by assumption) (fun _ => ?_) | with_reducible refine cz_I ?_ (by assumption) (fun _ => ?_) | with_reducible refine cz_L ?_ (by assumption) (fun _ => ?_) | with_reducible refine hG0 _ _ _ _ _ (by assumption) ?_ ?_ | with_reducible refine hG1 _ _ _ _ _ (by assumption) ?_ ?_ | with_reducible refine hG2 _ _ _ _ _ (by assumption) ?_ ?_ | with_reducible refine hG3 _ _ _ _ _ (by assumption) ?_ ?_ | with_reducible refine hG4 _ _ _ _ _ (by assumption) ?_ ?_ | with_reducible refine hG5 _ _ _ _ _ _ _ _ _ _ _ (by assumption) ?_ ?_ ?_ ?_ ?_ | with_reducible refine hG6 _ _ _ _ _ (by assumption) ?_ ?_ | with_reducible refine cz_ltv ?_ (fun _ => ?_) | (show _ = _; simp only [zr_1, zr_2, zr_J (k := 88) (by decide), zr_J (k := 134) (by decide)]) | rfl)
theorem zc_fb_M_clear_281 {v1 v1' : Int32} {v2 v2' : Int32} {v5 v5' : Int32} {v7 v7' : Int32} {v8 v8' : Int32} {G' G : (MS → Int32 → Int32 → Option (MS × Unit)) × (MS → Int32 → Int32 → Option (MS × Unit)) × (MS → Int32 → Int32 → Option (MS × Unit)) × (MS → Int32 → Int32 → Option (MS × Unit)) × (MS → Int32 → Int32 → Option (MS × Unit)) × (MS → Int32 → Int32 → Int32 → Int32 → Int32 → Option (MS × Unit)) × (MS → Int32 → Int32 → Option (MS × Unit))} (h : ZIc p W x u) (e_v1 : v1' = v1) (e_v2 : v2' = v2) (e_v5 : v5' = v5) (e_v7 : v7' = v7) (e_v8 : v8' = v8) (hG0 : ∀ (s : MS) (a0 b0 : Int32) (a1 b1 : Int32), ZIc p W x s → b0 = a0 → b1 = a1 → CZ p W x (G'.1 (Zp p W x s) b0 b1) (G.1 s a0 a1)) (hG1 : ∀ (s : MS) (a0 b0 : Int32) (a1 b1 : Int32), ZIc p W x s → b0 = a0 → b1 = a1 → CZ p W x (G'.2.1 (Zp p W x s) b0 b1) (G.2.1 s a0 a1)) (hG2 : ∀ (s : MS) (a0 b0 : Int32) (a1 b1 : Int32), ZIc p W x s → b0 = a0 → b1 = a1 → CZ p W x (G'.2.2.1 (Zp p W x s) b0 b1) (G.2.2.1 s a0 a1)) (hG3 : ∀ (s : MS) (a0 b0 : Int32) (a1 b1 : Int32), ZIc p W x s → b0 = a0 → b1 = a1 → CZ p W x (G'.2.2.2.1 (Zp p W x s) b0 b1) (G.2.2.2.1 s a0 a1)) (hG4 : ∀ (s : MS) (a0 b0 : Int32) (a1 b1 : Int32), ZIc p W x s → b0 = a0 → b1 = a1 → CZ p W x (G'.2.2.2.2.1 (Zp p W x s) b0 b1) (G.2.2.2.2.1 s a0 a1)) (hG5 : ∀ (s : MS) (a0 b0 : Int32) (a1 b1 : Int32) (a2 b2 : Int32) (a3 b3 : Int32) (a4 b4 : Int32), ZIc p W x s → b0 = a0 → b1 = a1 → b2 = a2 → b3 = a3 → b4 = a4 → CZ p W x (G'.2.2.2.2.2.1 (Zp p W x s) b0 b1 b2 b3 b4) (G.2.2.2.2.2.1 s a0 a1 a2 a3 a4)) (hG6 : ∀ (s : MS) (a0 b0 : Int32) (a1 b1 : Int32), ZIc p W x s → b0 = a0 → b1 = a1 → CZ p W x (G'.2.2.2.2.2.2 (Zp p W x s) b0 b1) (G.2.2.2.2.2.2 s a0 a1)) : CZ p W x (fb_M_clear_281 N G' (Zp p W x u) v1' v2' v5' v7' v8') (fb_M_clear_281 N G u v1 v2 v5 v7 v8) := by
  subst e_v1
  subst e_v2
  subst e_v5
  subst e_v7
  subst e_v8
  unfold fb_M_clear_281
  repeat' (first | with_reducible rfl | with_reducible assumption | with_reducible refine cz_br ?_ ?_ ?_ | with_reducible refine cz_bnd ?_ (fun _ _ _ => ?_) | with_reducible refine cz_ck ?_ ?_ | with_reducible refine cz_some ?_ (by assumption) | with_reducible refine cz_A (by first | decide | exact And.right (by assumption)) ?_ (by assumption) (fun _ => ?_) | with_reducible refine cz_J (by first | decide | exact And.left (by assumption)) ?_ (by assumption) (fun _ => ?_) | with_reducible refine cz_I ?_ (by assumption) (fun _ => ?_) | with_reducible refine cz_L ?_ (by assumption) (fun _ => ?_) | with_reducible refine zc_fm_M_carried (by assumption) ?_ ?_ | with_reducible refine hG0 _ _ _ _ _ (by assumption) ?_ ?_ | with_reducible refine hG1 _ _ _ _ _ (by assumption) ?_ ?_ | with_reducible refine hG2 _ _ _ _ _ (by assumption) ?_ ?_ | with_reducible refine hG3 _ _ _ _ _ (by assumption) ?_ ?_ | with_reducible refine hG4 _ _ _ _ _ (by assumption) ?_ ?_ | with_reducible refine hG5 _ _ _ _ _ _ _ _ _ _ _ (by assumption) ?_ ?_ ?_ ?_ ?_ | with_reducible refine hG6 _ _ _ _ _ (by assumption) ?_ ?_ | with_reducible refine cz_ltv ?_ (fun _ => ?_) | (show _ = _; simp only [zr_1, zr_2, zr_J (k := 134) (by decide)]) | rfl)
theorem zc_fb_M_clear_273 {v1 v1' : Int32} {v2 v2' : Int32} {v3 v3' : Int64} {v5 v5' : Int32} {t0 t0' : Int32} {G' G : (MS → Int32 → Int32 → Option (MS × Unit)) × (MS → Int32 → Int32 → Option (MS × Unit)) × (MS → Int32 → Int32 → Option (MS × Unit)) × (MS → Int32 → Int32 → Option (MS × Unit)) × (MS → Int32 → Int32 → Option (MS × Unit)) × (MS → Int32 → Int32 → Int32 → Int32 → Int32 → Option (MS × Unit)) × (MS → Int32 → Int32 → Option (MS × Unit))} (h : ZIc p W x u) (e_v1 : v1' = v1) (e_v2 : v2' = v2) (e_v3 : v3' = v3) (e_v5 : v5' = v5) (e_t0 : t0' = t0) (hG0 : ∀ (s : MS) (a0 b0 : Int32) (a1 b1 : Int32), ZIc p W x s → b0 = a0 → b1 = a1 → CZ p W x (G'.1 (Zp p W x s) b0 b1) (G.1 s a0 a1)) (hG1 : ∀ (s : MS) (a0 b0 : Int32) (a1 b1 : Int32), ZIc p W x s → b0 = a0 → b1 = a1 → CZ p W x (G'.2.1 (Zp p W x s) b0 b1) (G.2.1 s a0 a1)) (hG2 : ∀ (s : MS) (a0 b0 : Int32) (a1 b1 : Int32), ZIc p W x s → b0 = a0 → b1 = a1 → CZ p W x (G'.2.2.1 (Zp p W x s) b0 b1) (G.2.2.1 s a0 a1)) (hG3 : ∀ (s : MS) (a0 b0 : Int32) (a1 b1 : Int32), ZIc p W x s → b0 = a0 → b1 = a1 → CZ p W x (G'.2.2.2.1 (Zp p W x s) b0 b1) (G.2.2.2.1 s a0 a1)) (hG4 : ∀ (s : MS) (a0 b0 : Int32) (a1 b1 : Int32), ZIc p W x s → b0 = a0 → b1 = a1 → CZ p W x (G'.2.2.2.2.1 (Zp p W x s) b0 b1) (G.2.2.2.2.1 s a0 a1)) (hG5 : ∀ (s : MS) (a0 b0 : Int32) (a1 b1 : Int32) (a2 b2 : Int32) (a3 b3 : Int32) (a4 b4 : Int32), ZIc p W x s → b0 = a0 → b1 = a1 → b2 = a2 → b3 = a3 → b4 = a4 → CZ p W x (G'.2.2.2.2.2.1 (Zp p W x s) b0 b1 b2 b3 b4) (G.2.2.2.2.2.1 s a0 a1 a2 a3 a4)) (hG6 : ∀ (s : MS) (a0 b0 : Int32) (a1 b1 : Int32), ZIc p W x s → b0 = a0 → b1 = a1 → CZ p W x (G'.2.2.2.2.2.2 (Zp p W x s) b0 b1) (G.2.2.2.2.2.2 s a0 a1)) : CZ p W x (fb_M_clear_273 N G' (Zp p W x u) v1' v2' v3' v5' t0') (fb_M_clear_273 N G u v1 v2 v3 v5 t0) := by
  subst e_v1
  subst e_v2
  subst e_v3
  subst e_v5
  subst e_t0
  unfold fb_M_clear_273
  repeat' (first | with_reducible rfl | with_reducible assumption | with_reducible refine cz_br ?_ ?_ ?_ | with_reducible refine cz_bnd ?_ (fun _ _ _ => ?_) | with_reducible refine cz_ck ?_ ?_ | with_reducible refine cz_some ?_ (by assumption) | with_reducible refine cz_A (by first | decide | exact And.right (by assumption)) ?_ (by assumption) (fun _ => ?_) | with_reducible refine cz_J (by first | decide | exact And.left (by assumption)) ?_ (by assumption) (fun _ => ?_) | with_reducible refine cz_I ?_ (by assumption) (fun _ => ?_) | with_reducible refine cz_L ?_ (by assumption) (fun _ => ?_) | with_reducible refine zc_fm_M_partsFrom (by assumption) ?_ | with_reducible refine hG0 _ _ _ _ _ (by assumption) ?_ ?_ | with_reducible refine hG1 _ _ _ _ _ (by assumption) ?_ ?_ | with_reducible refine hG2 _ _ _ _ _ (by assumption) ?_ ?_ | with_reducible refine hG3 _ _ _ _ _ (by assumption) ?_ ?_ | with_reducible refine hG4 _ _ _ _ _ (by assumption) ?_ ?_ | with_reducible refine hG5 _ _ _ _ _ _ _ _ _ _ _ (by assumption) ?_ ?_ ?_ ?_ ?_ | with_reducible refine hG6 _ _ _ _ _ (by assumption) ?_ ?_ | with_reducible refine cz_ltv ?_ (fun _ => ?_) | (show _ = _; simp only [zr_1, zr_2]) | rfl)
theorem zc_fb_M_clear_204 {v1 v1' : Int32} {v2 v2' : Int32} {G' G : (MS → Int32 → Int32 → Option (MS × Unit)) × (MS → Int32 → Int32 → Option (MS × Unit)) × (MS → Int32 → Int32 → Option (MS × Unit)) × (MS → Int32 → Int32 → Option (MS × Unit)) × (MS → Int32 → Int32 → Option (MS × Unit)) × (MS → Int32 → Int32 → Int32 → Int32 → Int32 → Option (MS × Unit)) × (MS → Int32 → Int32 → Option (MS × Unit))} (h : ZIc p W x u) (e_v1 : v1' = v1) (e_v2 : v2' = v2) (hG0 : ∀ (s : MS) (a0 b0 : Int32) (a1 b1 : Int32), ZIc p W x s → b0 = a0 → b1 = a1 → CZ p W x (G'.1 (Zp p W x s) b0 b1) (G.1 s a0 a1)) (hG1 : ∀ (s : MS) (a0 b0 : Int32) (a1 b1 : Int32), ZIc p W x s → b0 = a0 → b1 = a1 → CZ p W x (G'.2.1 (Zp p W x s) b0 b1) (G.2.1 s a0 a1)) (hG2 : ∀ (s : MS) (a0 b0 : Int32) (a1 b1 : Int32), ZIc p W x s → b0 = a0 → b1 = a1 → CZ p W x (G'.2.2.1 (Zp p W x s) b0 b1) (G.2.2.1 s a0 a1)) (hG3 : ∀ (s : MS) (a0 b0 : Int32) (a1 b1 : Int32), ZIc p W x s → b0 = a0 → b1 = a1 → CZ p W x (G'.2.2.2.1 (Zp p W x s) b0 b1) (G.2.2.2.1 s a0 a1)) (hG4 : ∀ (s : MS) (a0 b0 : Int32) (a1 b1 : Int32), ZIc p W x s → b0 = a0 → b1 = a1 → CZ p W x (G'.2.2.2.2.1 (Zp p W x s) b0 b1) (G.2.2.2.2.1 s a0 a1)) (hG5 : ∀ (s : MS) (a0 b0 : Int32) (a1 b1 : Int32) (a2 b2 : Int32) (a3 b3 : Int32) (a4 b4 : Int32), ZIc p W x s → b0 = a0 → b1 = a1 → b2 = a2 → b3 = a3 → b4 = a4 → CZ p W x (G'.2.2.2.2.2.1 (Zp p W x s) b0 b1 b2 b3 b4) (G.2.2.2.2.2.1 s a0 a1 a2 a3 a4)) (hG6 : ∀ (s : MS) (a0 b0 : Int32) (a1 b1 : Int32), ZIc p W x s → b0 = a0 → b1 = a1 → CZ p W x (G'.2.2.2.2.2.2 (Zp p W x s) b0 b1) (G.2.2.2.2.2.2 s a0 a1)) : CZ p W x (fb_M_clear_204 N G' (Zp p W x u) v1' v2') (fb_M_clear_204 N G u v1 v2) := by
  subst e_v1
  subst e_v2
  unfold fb_M_clear_204
  repeat' (first | with_reducible rfl | with_reducible assumption | with_reducible refine cz_br ?_ ?_ ?_ | with_reducible refine cz_bnd ?_ (fun _ _ _ => ?_) | with_reducible refine cz_ck ?_ ?_ | with_reducible refine cz_some ?_ (by assumption) | with_reducible refine cz_A (by first | decide | exact And.right (by assumption)) ?_ (by assumption) (fun _ => ?_) | with_reducible refine cz_J (by first | decide | exact And.left (by assumption)) ?_ (by assumption) (fun _ => ?_) | with_reducible refine cz_I ?_ (by assumption) (fun _ => ?_) | with_reducible refine cz_L ?_ (by assumption) (fun _ => ?_) | with_reducible refine zc_fb_M_clear_273 (by assumption) ?_ ?_ ?_ ?_ ?_ hG0 hG1 hG2 hG3 hG4 hG5 hG6 | with_reducible refine zc_fm_M_valueOf (by assumption) ?_ | with_reducible refine zc_fm_M_sortOf (by assumption) ?_ | with_reducible refine hG0 _ _ _ _ _ (by assumption) ?_ ?_ | with_reducible refine hG1 _ _ _ _ _ (by assumption) ?_ ?_ | with_reducible refine hG2 _ _ _ _ _ (by assumption) ?_ ?_ | with_reducible refine hG3 _ _ _ _ _ (by assumption) ?_ ?_ | with_reducible refine hG4 _ _ _ _ _ (by assumption) ?_ ?_ | with_reducible refine hG5 _ _ _ _ _ _ _ _ _ _ _ (by assumption) ?_ ?_ ?_ ?_ ?_ | with_reducible refine hG6 _ _ _ _ _ (by assumption) ?_ ?_ | with_reducible refine cz_ltv ?_ (fun _ => ?_) | (show _ = _; simp only [zr_1, zr_2, zr_A (k := 89) (by decide), zr_J (k := 134) (by decide), zr_J (k := 137) (by decide)]) | rfl)
theorem zc_fb_M_clear_202 {v1 v1' : Int32} {G' G : (MS → Int32 → Int32 → Option (MS × Unit)) × (MS → Int32 → Int32 → Option (MS × Unit)) × (MS → Int32 → Int32 → Option (MS × Unit)) × (MS → Int32 → Int32 → Option (MS × Unit)) × (MS → Int32 → Int32 → Option (MS × Unit)) × (MS → Int32 → Int32 → Int32 → Int32 → Int32 → Option (MS × Unit)) × (MS → Int32 → Int32 → Option (MS × Unit))} (h : ZIc p W x u) (e_v1 : v1' = v1) (hG0 : ∀ (s : MS) (a0 b0 : Int32) (a1 b1 : Int32), ZIc p W x s → b0 = a0 → b1 = a1 → CZ p W x (G'.1 (Zp p W x s) b0 b1) (G.1 s a0 a1)) (hG1 : ∀ (s : MS) (a0 b0 : Int32) (a1 b1 : Int32), ZIc p W x s → b0 = a0 → b1 = a1 → CZ p W x (G'.2.1 (Zp p W x s) b0 b1) (G.2.1 s a0 a1)) (hG2 : ∀ (s : MS) (a0 b0 : Int32) (a1 b1 : Int32), ZIc p W x s → b0 = a0 → b1 = a1 → CZ p W x (G'.2.2.1 (Zp p W x s) b0 b1) (G.2.2.1 s a0 a1)) (hG3 : ∀ (s : MS) (a0 b0 : Int32) (a1 b1 : Int32), ZIc p W x s → b0 = a0 → b1 = a1 → CZ p W x (G'.2.2.2.1 (Zp p W x s) b0 b1) (G.2.2.2.1 s a0 a1)) (hG4 : ∀ (s : MS) (a0 b0 : Int32) (a1 b1 : Int32), ZIc p W x s → b0 = a0 → b1 = a1 → CZ p W x (G'.2.2.2.2.1 (Zp p W x s) b0 b1) (G.2.2.2.2.1 s a0 a1)) (hG5 : ∀ (s : MS) (a0 b0 : Int32) (a1 b1 : Int32) (a2 b2 : Int32) (a3 b3 : Int32) (a4 b4 : Int32), ZIc p W x s → b0 = a0 → b1 = a1 → b2 = a2 → b3 = a3 → b4 = a4 → CZ p W x (G'.2.2.2.2.2.1 (Zp p W x s) b0 b1 b2 b3 b4) (G.2.2.2.2.2.1 s a0 a1 a2 a3 a4)) (hG6 : ∀ (s : MS) (a0 b0 : Int32) (a1 b1 : Int32), ZIc p W x s → b0 = a0 → b1 = a1 → CZ p W x (G'.2.2.2.2.2.2 (Zp p W x s) b0 b1) (G.2.2.2.2.2.2 s a0 a1)) : CZ p W x (fb_M_clear_202 N G' (Zp p W x u) v1') (fb_M_clear_202 N G u v1) := by
  subst e_v1
  unfold fb_M_clear_202
  repeat' (first | with_reducible rfl | with_reducible assumption | with_reducible refine cz_br ?_ ?_ ?_ | with_reducible refine cz_bnd ?_ (fun _ _ _ => ?_) | with_reducible refine cz_ck ?_ ?_ | with_reducible refine cz_some ?_ (by assumption) | with_reducible refine cz_A (by first | decide | exact And.right (by assumption)) ?_ (by assumption) (fun _ => ?_) | with_reducible refine cz_J (by first | decide | exact And.left (by assumption)) ?_ (by assumption) (fun _ => ?_) | with_reducible refine cz_I ?_ (by assumption) (fun _ => ?_) | with_reducible refine cz_L ?_ (by assumption) (fun _ => ?_) | with_reducible refine hG0 _ _ _ _ _ (by assumption) ?_ ?_ | with_reducible refine hG1 _ _ _ _ _ (by assumption) ?_ ?_ | with_reducible refine hG2 _ _ _ _ _ (by assumption) ?_ ?_ | with_reducible refine hG3 _ _ _ _ _ (by assumption) ?_ ?_ | with_reducible refine hG4 _ _ _ _ _ (by assumption) ?_ ?_ | with_reducible refine hG5 _ _ _ _ _ _ _ _ _ _ _ (by assumption) ?_ ?_ ?_ ?_ ?_ | with_reducible refine hG6 _ _ _ _ _ (by assumption) ?_ ?_ | with_reducible refine cz_ltv ?_ (fun _ => ?_) | (show _ = _; simp only [zr_1, zr_2]) | rfl)
theorem zc_fb_M_clear_138 {v1 v1' : Int32} {v2 v2' : Int32} {G' G : (MS → Int32 → Int32 → Option (MS × Unit)) × (MS → Int32 → Int32 → Option (MS × Unit)) × (MS → Int32 → Int32 → Option (MS × Unit)) × (MS → Int32 → Int32 → Option (MS × Unit)) × (MS → Int32 → Int32 → Option (MS × Unit)) × (MS → Int32 → Int32 → Int32 → Int32 → Int32 → Option (MS × Unit)) × (MS → Int32 → Int32 → Option (MS × Unit))} (h : ZIc p W x u) (e_v1 : v1' = v1) (e_v2 : v2' = v2) (hG0 : ∀ (s : MS) (a0 b0 : Int32) (a1 b1 : Int32), ZIc p W x s → b0 = a0 → b1 = a1 → CZ p W x (G'.1 (Zp p W x s) b0 b1) (G.1 s a0 a1)) (hG1 : ∀ (s : MS) (a0 b0 : Int32) (a1 b1 : Int32), ZIc p W x s → b0 = a0 → b1 = a1 → CZ p W x (G'.2.1 (Zp p W x s) b0 b1) (G.2.1 s a0 a1)) (hG2 : ∀ (s : MS) (a0 b0 : Int32) (a1 b1 : Int32), ZIc p W x s → b0 = a0 → b1 = a1 → CZ p W x (G'.2.2.1 (Zp p W x s) b0 b1) (G.2.2.1 s a0 a1)) (hG3 : ∀ (s : MS) (a0 b0 : Int32) (a1 b1 : Int32), ZIc p W x s → b0 = a0 → b1 = a1 → CZ p W x (G'.2.2.2.1 (Zp p W x s) b0 b1) (G.2.2.2.1 s a0 a1)) (hG4 : ∀ (s : MS) (a0 b0 : Int32) (a1 b1 : Int32), ZIc p W x s → b0 = a0 → b1 = a1 → CZ p W x (G'.2.2.2.2.1 (Zp p W x s) b0 b1) (G.2.2.2.2.1 s a0 a1)) (hG5 : ∀ (s : MS) (a0 b0 : Int32) (a1 b1 : Int32) (a2 b2 : Int32) (a3 b3 : Int32) (a4 b4 : Int32), ZIc p W x s → b0 = a0 → b1 = a1 → b2 = a2 → b3 = a3 → b4 = a4 → CZ p W x (G'.2.2.2.2.2.1 (Zp p W x s) b0 b1 b2 b3 b4) (G.2.2.2.2.2.1 s a0 a1 a2 a3 a4)) (hG6 : ∀ (s : MS) (a0 b0 : Int32) (a1 b1 : Int32), ZIc p W x s → b0 = a0 → b1 = a1 → CZ p W x (G'.2.2.2.2.2.2 (Zp p W x s) b0 b1) (G.2.2.2.2.2.2 s a0 a1)) : CZ p W x (fb_M_clear_138 N G' (Zp p W x u) v1' v2') (fb_M_clear_138 N G u v1 v2) := by
  subst e_v1
  subst e_v2
  unfold fb_M_clear_138
  repeat' (first | with_reducible rfl | with_reducible assumption | with_reducible refine cz_br ?_ ?_ ?_ | with_reducible refine cz_bnd ?_ (fun _ _ _ => ?_) | with_reducible refine cz_ck ?_ ?_ | with_reducible refine cz_some ?_ (by assumption) | with_reducible refine cz_A (by first | decide | exact And.right (by assumption)) ?_ (by assumption) (fun _ => ?_) | with_reducible refine cz_J (by first | decide | exact And.left (by assumption)) ?_ (by assumption) (fun _ => ?_) | with_reducible refine cz_I ?_ (by assumption) (fun _ => ?_) | with_reducible refine cz_L ?_ (by assumption) (fun _ => ?_) | with_reducible refine zc_fb_M_clear_202 (by assumption) ?_ hG0 hG1 hG2 hG3 hG4 hG5 hG6 | with_reducible refine zc_fm_M_carried (by assumption) ?_ ?_ | with_reducible refine hG0 _ _ _ _ _ (by assumption) ?_ ?_ | with_reducible refine hG1 _ _ _ _ _ (by assumption) ?_ ?_ | with_reducible refine hG2 _ _ _ _ _ (by assumption) ?_ ?_ | with_reducible refine hG3 _ _ _ _ _ (by assumption) ?_ ?_ | with_reducible refine hG4 _ _ _ _ _ (by assumption) ?_ ?_ | with_reducible refine hG5 _ _ _ _ _ _ _ _ _ _ _ (by assumption) ?_ ?_ ?_ ?_ ?_ | with_reducible refine hG6 _ _ _ _ _ (by assumption) ?_ ?_ | with_reducible refine cz_ltv ?_ (fun _ => ?_) | (show _ = _; simp only [zr_1, zr_2, zr_A (k := 108) (by decide), zr_J (k := 107) (by decide)]) | rfl)
theorem zc_fb_M_clear_91 {v1 v1' : Int32} {v2 v2' : Int32} {G' G : (MS → Int32 → Int32 → Option (MS × Unit)) × (MS → Int32 → Int32 → Option (MS × Unit)) × (MS → Int32 → Int32 → Option (MS × Unit)) × (MS → Int32 → Int32 → Option (MS × Unit)) × (MS → Int32 → Int32 → Option (MS × Unit)) × (MS → Int32 → Int32 → Int32 → Int32 → Int32 → Option (MS × Unit)) × (MS → Int32 → Int32 → Option (MS × Unit))} (h : ZIc p W x u) (e_v1 : v1' = v1) (e_v2 : v2' = v2) (hG0 : ∀ (s : MS) (a0 b0 : Int32) (a1 b1 : Int32), ZIc p W x s → b0 = a0 → b1 = a1 → CZ p W x (G'.1 (Zp p W x s) b0 b1) (G.1 s a0 a1)) (hG1 : ∀ (s : MS) (a0 b0 : Int32) (a1 b1 : Int32), ZIc p W x s → b0 = a0 → b1 = a1 → CZ p W x (G'.2.1 (Zp p W x s) b0 b1) (G.2.1 s a0 a1)) (hG2 : ∀ (s : MS) (a0 b0 : Int32) (a1 b1 : Int32), ZIc p W x s → b0 = a0 → b1 = a1 → CZ p W x (G'.2.2.1 (Zp p W x s) b0 b1) (G.2.2.1 s a0 a1)) (hG3 : ∀ (s : MS) (a0 b0 : Int32) (a1 b1 : Int32), ZIc p W x s → b0 = a0 → b1 = a1 → CZ p W x (G'.2.2.2.1 (Zp p W x s) b0 b1) (G.2.2.2.1 s a0 a1)) (hG4 : ∀ (s : MS) (a0 b0 : Int32) (a1 b1 : Int32), ZIc p W x s → b0 = a0 → b1 = a1 → CZ p W x (G'.2.2.2.2.1 (Zp p W x s) b0 b1) (G.2.2.2.2.1 s a0 a1)) (hG5 : ∀ (s : MS) (a0 b0 : Int32) (a1 b1 : Int32) (a2 b2 : Int32) (a3 b3 : Int32) (a4 b4 : Int32), ZIc p W x s → b0 = a0 → b1 = a1 → b2 = a2 → b3 = a3 → b4 = a4 → CZ p W x (G'.2.2.2.2.2.1 (Zp p W x s) b0 b1 b2 b3 b4) (G.2.2.2.2.2.1 s a0 a1 a2 a3 a4)) (hG6 : ∀ (s : MS) (a0 b0 : Int32) (a1 b1 : Int32), ZIc p W x s → b0 = a0 → b1 = a1 → CZ p W x (G'.2.2.2.2.2.2 (Zp p W x s) b0 b1) (G.2.2.2.2.2.2 s a0 a1)) : CZ p W x (fb_M_clear_91 N G' (Zp p W x u) v1' v2') (fb_M_clear_91 N G u v1 v2) := by
  subst e_v1
  subst e_v2
  unfold fb_M_clear_91
  repeat' (first | with_reducible rfl | with_reducible assumption | with_reducible refine cz_br ?_ ?_ ?_ | with_reducible refine cz_bnd ?_ (fun _ _ _ => ?_) | with_reducible refine cz_ck ?_ ?_ | with_reducible refine cz_some ?_ (by assumption) | with_reducible refine cz_A (by first | decide | exact And.right (by assumption)) ?_ (by assumption) (fun _ => ?_) | with_reducible refine cz_J (by first | decide | exact And.left (by assumption)) ?_ (by assumption) (fun _ => ?_) | with_reducible refine cz_I ?_ (by assumption) (fun _ => ?_) | with_reducible refine cz_L ?_ (by assumption) (fun _ => ?_) | with_reducible refine zc_fm_M_carried (by assumption) ?_ ?_ | with_reducible refine hG0 _ _ _ _ _ (by assumption) ?_ ?_ | with_reducible refine hG1 _ _ _ _ _ (by assumption) ?_ ?_ | with_reducible refine hG2 _ _ _ _ _ (by assumption) ?_ ?_ | with_reducible refine hG3 _ _ _ _ _ (by assumption) ?_ ?_ | with_reducible refine hG4 _ _ _ _ _ (by assumption) ?_ ?_ | with_reducible refine hG5 _ _ _ _ _ _ _ _ _ _ _ (by assumption) ?_ ?_ ?_ ?_ ?_ | with_reducible refine hG6 _ _ _ _ _ (by assumption) ?_ ?_ | with_reducible refine cz_ltv ?_ (fun _ => ?_) | (show _ = _; simp only [zr_1, zr_2, zr_A (k := 94) (by decide), zr_J (k := 93) (by decide)]) | rfl)
theorem car_lit {v : Int32} {x : Int64} (hx : ¬ isH x) : fm_M_carried N u v x = some (u, x) := by
  unfold fm_M_carried fb_M_carried_0
  rw [inHeap_e.2 hx, bnd_so, show decide (I 0 = 0) = true from rfl, br_t]
theorem zp_91 {i : Nat} : (Zp p W x u).2.2.2 91 i = if i = 46000 * p + W then x else u.2.2.2 91 i := by
  show (if (91 : Nat) = 91 then vp_updL (u.2.2.2 91) (46000 * p + W) x else u.2.2.2 91) i = _
  rw [if_pos rfl]
  rfl
theorem zp_J91 {i : Nat} {r : Int64} (hi : i ≠ 46000 * p + W) : upJ (Zp p W x u) 91 (vp_updL ((Zp p W x u).2.2.2 91) i r) = Zp p W x (upJ u 91 (vp_updL (u.2.2.2 91) i r)) := by
  refine Prod.ext rfl (Prod.ext rfl (Prod.ext rfl (funext (fun K => ?_))))
  by_cases c : K = 91
  · subst c
    funext k
    show (wj (Zp p W x u) 91 i r).2.2.2 91 k = (Zp p W x (wj u 91 i r)).2.2.2 91 k
    rw [wj_row, zp_91, zp_91, wj_row]
    by_cases c1 : k = i
    · rw [if_pos c1, if_neg (by omega), if_pos c1]
    · rw [if_neg c1, if_neg c1]
  · show (if K = 91 then vp_updL ((Zp p W x u).2.2.2 91) i r else if K = 91 then vp_updL (u.2.2.2 91) (46000 * p + W) x else u.2.2.2 K) = (if K = 91 then _ else if K = 91 then vp_updL (u.2.2.2 91) i r else u.2.2.2 K)
    rw [if_neg c, if_neg c, if_neg c, if_neg c]
theorem zp_Jx : upJ (Zp p W x u) 91 (vp_updL ((Zp p W x u).2.2.2 91) (46000 * p + W) x) = Zp p W x (upJ u 91 (vp_updL (u.2.2.2 91) (46000 * p + W) (u.2.2.2 91 (46000 * p + W)))) := by
  refine Prod.ext rfl (Prod.ext rfl (Prod.ext rfl (funext (fun K => ?_))))
  by_cases c : K = 91
  · subst c
    funext k
    show (wj (Zp p W x u) 91 (46000 * p + W) x).2.2.2 91 k = (Zp p W x (wj u 91 (46000 * p + W) (u.2.2.2 91 (46000 * p + W)))).2.2.2 91 k
    rw [wj_row, zp_91, zp_91, wj_row]
    by_cases c1 : k = 46000 * p + W
    · rw [if_pos c1, if_pos c1]
    · rw [if_neg c1, if_neg c1, if_neg c1, if_neg c1]
  · show (if K = 91 then vp_updL ((Zp p W x u).2.2.2 91) (46000 * p + W) x else if K = 91 then vp_updL (u.2.2.2 91) (46000 * p + W) x else u.2.2.2 K) = (if K = 91 then _ else if K = 91 then vp_updL (u.2.2.2 91) (46000 * p + W) (u.2.2.2 91 (46000 * p + W)) else u.2.2.2 K)
    rw [if_neg c, if_neg c, if_neg c, if_neg c]
theorem zi_91 {i : Nat} {r : Int64} (hi : i ≠ 46000 * p + W) (h : ZIc p W x u) : ZIc p W x (upJ u 91 (vp_updL (u.2.2.2 91) i r)) := by
  refine ⟨h.1, ?_⟩
  show ¬ isH ((wj u 91 i r).2.2.2 91 (46000 * p + W))
  rw [wj_row, if_neg (Ne.symm hi)]
  exact h.2
theorem zi_9x (h : ZIc p W x u) : ZIc p W x (upJ u 91 (vp_updL (u.2.2.2 91) (46000 * p + W) (u.2.2.2 91 (46000 * p + W)))) := by
  refine ⟨h.1, ?_⟩
  show ¬ isH ((wj u 91 (46000 * p + W) (u.2.2.2 91 (46000 * p + W))).2.2.2 91 (46000 * p + W))
  rw [wj_row, if_pos rfl]
  exact h.2
/-- what waits is carried over -/
theorem zc_fb_M_clear_44 {v1 v1' : Int32} {v2 v2' : Int32} {G' G : (MS → Int32 → Int32 → Option (MS × Unit)) × (MS → Int32 → Int32 → Option (MS × Unit)) × (MS → Int32 → Int32 → Option (MS × Unit)) × (MS → Int32 → Int32 → Option (MS × Unit)) × (MS → Int32 → Int32 → Option (MS × Unit)) × (MS → Int32 → Int32 → Int32 → Int32 → Int32 → Option (MS × Unit)) × (MS → Int32 → Int32 → Option (MS × Unit))} (h : ZIc p W x u) (e_v1 : v1' = v1) (e_v2 : v2' = v2) (_ : ∀ (s : MS) (a0 b0 : Int32) (a1 b1 : Int32), ZIc p W x s → b0 = a0 → b1 = a1 → CZ p W x (G'.1 (Zp p W x s) b0 b1) (G.1 s a0 a1)) (hG1 : ∀ (s : MS) (a0 b0 : Int32) (a1 b1 : Int32), ZIc p W x s → b0 = a0 → b1 = a1 → CZ p W x (G'.2.1 (Zp p W x s) b0 b1) (G.2.1 s a0 a1)) (hG2 : ∀ (s : MS) (a0 b0 : Int32) (a1 b1 : Int32), ZIc p W x s → b0 = a0 → b1 = a1 → CZ p W x (G'.2.2.1 (Zp p W x s) b0 b1) (G.2.2.1 s a0 a1)) (_ : ∀ (s : MS) (a0 b0 : Int32) (a1 b1 : Int32), ZIc p W x s → b0 = a0 → b1 = a1 → CZ p W x (G'.2.2.2.1 (Zp p W x s) b0 b1) (G.2.2.2.1 s a0 a1)) (_ : ∀ (s : MS) (a0 b0 : Int32) (a1 b1 : Int32), ZIc p W x s → b0 = a0 → b1 = a1 → CZ p W x (G'.2.2.2.2.1 (Zp p W x s) b0 b1) (G.2.2.2.2.1 s a0 a1)) (_ : ∀ (s : MS) (a0 b0 : Int32) (a1 b1 : Int32) (a2 b2 : Int32) (a3 b3 : Int32) (a4 b4 : Int32), ZIc p W x s → b0 = a0 → b1 = a1 → b2 = a2 → b3 = a3 → b4 = a4 → CZ p W x (G'.2.2.2.2.2.1 (Zp p W x s) b0 b1 b2 b3 b4) (G.2.2.2.2.2.1 s a0 a1 a2 a3 a4)) (_ : ∀ (s : MS) (a0 b0 : Int32) (a1 b1 : Int32), ZIc p W x s → b0 = a0 → b1 = a1 → CZ p W x (G'.2.2.2.2.2.2 (Zp p W x s) b0 b1) (G.2.2.2.2.2.2 s a0 a1)) : CZ p W x (fb_M_clear_44 N G' (Zp p W x u) v1' v2') (fb_M_clear_44 N G u v1 v2) := by
  subst e_v1
  subst e_v2
  unfold fb_M_clear_44
  refine cz_ck rfl (cz_br rfl (hG2 _ _ _ _ _ h rfl rfl) (cz_ck rfl ?_))
  by_cases c : ((v1' * 46000) + v2').toNatClampNeg = 46000 * p + W
  · rw [c, zp_91, if_pos rfl, car_lit h.1, bnd_so, car_lit h.2, bnd_so]
    refine cz_ck rfl ?_
    rw [zp_Jx]
    exact hG1 _ _ _ _ _ (zi_9x h) rfl rfl
  · rw [zp_91, if_neg c]
    refine cz_bnd (zc_fm_M_carried h rfl rfl) (fun s r hs => cz_ck rfl ?_)
    rw [zp_J91 c]
    exact hG1 _ _ _ _ _ (zi_91 c hs) rfl rfl
theorem zc_fb_M_clear_22 {v1 v1' : Int32} {v2 v2' : Int32} {G' G : (MS → Int32 → Int32 → Option (MS × Unit)) × (MS → Int32 → Int32 → Option (MS × Unit)) × (MS → Int32 → Int32 → Option (MS × Unit)) × (MS → Int32 → Int32 → Option (MS × Unit)) × (MS → Int32 → Int32 → Option (MS × Unit)) × (MS → Int32 → Int32 → Int32 → Int32 → Int32 → Option (MS × Unit)) × (MS → Int32 → Int32 → Option (MS × Unit))} (h : ZIc p W x u) (e_v1 : v1' = v1) (e_v2 : v2' = v2) (hG0 : ∀ (s : MS) (a0 b0 : Int32) (a1 b1 : Int32), ZIc p W x s → b0 = a0 → b1 = a1 → CZ p W x (G'.1 (Zp p W x s) b0 b1) (G.1 s a0 a1)) (hG1 : ∀ (s : MS) (a0 b0 : Int32) (a1 b1 : Int32), ZIc p W x s → b0 = a0 → b1 = a1 → CZ p W x (G'.2.1 (Zp p W x s) b0 b1) (G.2.1 s a0 a1)) (hG2 : ∀ (s : MS) (a0 b0 : Int32) (a1 b1 : Int32), ZIc p W x s → b0 = a0 → b1 = a1 → CZ p W x (G'.2.2.1 (Zp p W x s) b0 b1) (G.2.2.1 s a0 a1)) (hG3 : ∀ (s : MS) (a0 b0 : Int32) (a1 b1 : Int32), ZIc p W x s → b0 = a0 → b1 = a1 → CZ p W x (G'.2.2.2.1 (Zp p W x s) b0 b1) (G.2.2.2.1 s a0 a1)) (hG4 : ∀ (s : MS) (a0 b0 : Int32) (a1 b1 : Int32), ZIc p W x s → b0 = a0 → b1 = a1 → CZ p W x (G'.2.2.2.2.1 (Zp p W x s) b0 b1) (G.2.2.2.2.1 s a0 a1)) (hG5 : ∀ (s : MS) (a0 b0 : Int32) (a1 b1 : Int32) (a2 b2 : Int32) (a3 b3 : Int32) (a4 b4 : Int32), ZIc p W x s → b0 = a0 → b1 = a1 → b2 = a2 → b3 = a3 → b4 = a4 → CZ p W x (G'.2.2.2.2.2.1 (Zp p W x s) b0 b1 b2 b3 b4) (G.2.2.2.2.2.1 s a0 a1 a2 a3 a4)) (hG6 : ∀ (s : MS) (a0 b0 : Int32) (a1 b1 : Int32), ZIc p W x s → b0 = a0 → b1 = a1 → CZ p W x (G'.2.2.2.2.2.2 (Zp p W x s) b0 b1) (G.2.2.2.2.2.2 s a0 a1)) : CZ p W x (fb_M_clear_22 N G' (Zp p W x u) v1' v2') (fb_M_clear_22 N G u v1 v2) := by
  subst e_v1
  subst e_v2
  unfold fb_M_clear_22
  repeat' (first | with_reducible rfl | with_reducible assumption | with_reducible refine cz_br ?_ ?_ ?_ | with_reducible refine cz_bnd ?_ (fun _ _ _ => ?_) | with_reducible refine cz_ck ?_ ?_ | with_reducible refine cz_some ?_ (by assumption) | with_reducible refine cz_A (by first | decide | exact And.right (by assumption)) ?_ (by assumption) (fun _ => ?_) | with_reducible refine cz_J (by first | decide | exact And.left (by assumption)) ?_ (by assumption) (fun _ => ?_) | with_reducible refine cz_I ?_ (by assumption) (fun _ => ?_) | with_reducible refine cz_L ?_ (by assumption) (fun _ => ?_) | with_reducible refine hG0 _ _ _ _ _ (by assumption) ?_ ?_ | with_reducible refine hG1 _ _ _ _ _ (by assumption) ?_ ?_ | with_reducible refine hG2 _ _ _ _ _ (by assumption) ?_ ?_ | with_reducible refine hG3 _ _ _ _ _ (by assumption) ?_ ?_ | with_reducible refine hG4 _ _ _ _ _ (by assumption) ?_ ?_ | with_reducible refine hG5 _ _ _ _ _ _ _ _ _ _ _ (by assumption) ?_ ?_ ?_ ?_ ?_ | with_reducible refine hG6 _ _ _ _ _ (by assumption) ?_ ?_ | with_reducible refine cz_ltv ?_ (fun _ => ?_) | (show _ = _; simp only [zr_1, zr_2, zr_A (k := 135) (by decide)]) | rfl)
theorem zc_fb_M_clear_0 {v1 v1' : Int32} {G' G : (MS → Int32 → Int32 → Option (MS × Unit)) × (MS → Int32 → Int32 → Option (MS × Unit)) × (MS → Int32 → Int32 → Option (MS × Unit)) × (MS → Int32 → Int32 → Option (MS × Unit)) × (MS → Int32 → Int32 → Option (MS × Unit)) × (MS → Int32 → Int32 → Int32 → Int32 → Int32 → Option (MS × Unit)) × (MS → Int32 → Int32 → Option (MS × Unit))} (h : ZIc p W x u) (e_v1 : v1' = v1) (hG0 : ∀ (s : MS) (a0 b0 : Int32) (a1 b1 : Int32), ZIc p W x s → b0 = a0 → b1 = a1 → CZ p W x (G'.1 (Zp p W x s) b0 b1) (G.1 s a0 a1)) (hG1 : ∀ (s : MS) (a0 b0 : Int32) (a1 b1 : Int32), ZIc p W x s → b0 = a0 → b1 = a1 → CZ p W x (G'.2.1 (Zp p W x s) b0 b1) (G.2.1 s a0 a1)) (hG2 : ∀ (s : MS) (a0 b0 : Int32) (a1 b1 : Int32), ZIc p W x s → b0 = a0 → b1 = a1 → CZ p W x (G'.2.2.1 (Zp p W x s) b0 b1) (G.2.2.1 s a0 a1)) (hG3 : ∀ (s : MS) (a0 b0 : Int32) (a1 b1 : Int32), ZIc p W x s → b0 = a0 → b1 = a1 → CZ p W x (G'.2.2.2.1 (Zp p W x s) b0 b1) (G.2.2.2.1 s a0 a1)) (hG4 : ∀ (s : MS) (a0 b0 : Int32) (a1 b1 : Int32), ZIc p W x s → b0 = a0 → b1 = a1 → CZ p W x (G'.2.2.2.2.1 (Zp p W x s) b0 b1) (G.2.2.2.2.1 s a0 a1)) (hG5 : ∀ (s : MS) (a0 b0 : Int32) (a1 b1 : Int32) (a2 b2 : Int32) (a3 b3 : Int32) (a4 b4 : Int32), ZIc p W x s → b0 = a0 → b1 = a1 → b2 = a2 → b3 = a3 → b4 = a4 → CZ p W x (G'.2.2.2.2.2.1 (Zp p W x s) b0 b1 b2 b3 b4) (G.2.2.2.2.2.1 s a0 a1 a2 a3 a4)) (hG6 : ∀ (s : MS) (a0 b0 : Int32) (a1 b1 : Int32), ZIc p W x s → b0 = a0 → b1 = a1 → CZ p W x (G'.2.2.2.2.2.2 (Zp p W x s) b0 b1) (G.2.2.2.2.2.2 s a0 a1)) : CZ p W x (fb_M_clear_0 N G' (Zp p W x u) v1') (fb_M_clear_0 N G u v1) := by
  subst e_v1
  unfold fb_M_clear_0
  repeat' (first | with_reducible rfl | with_reducible assumption | with_reducible refine cz_br ?_ ?_ ?_ | with_reducible refine cz_bnd ?_ (fun _ _ _ => ?_) | with_reducible refine cz_ck ?_ ?_ | with_reducible refine cz_some ?_ (by assumption) | with_reducible refine cz_A (by first | decide | exact And.right (by assumption)) ?_ (by assumption) (fun _ => ?_) | with_reducible refine cz_J (by first | decide | exact And.left (by assumption)) ?_ (by assumption) (fun _ => ?_) | with_reducible refine cz_I ?_ (by assumption) (fun _ => ?_) | with_reducible refine cz_L ?_ (by assumption) (fun _ => ?_) | with_reducible refine hG0 _ _ _ _ _ (by assumption) ?_ ?_ | with_reducible refine hG1 _ _ _ _ _ (by assumption) ?_ ?_ | with_reducible refine hG2 _ _ _ _ _ (by assumption) ?_ ?_ | with_reducible refine hG3 _ _ _ _ _ (by assumption) ?_ ?_ | with_reducible refine hG4 _ _ _ _ _ (by assumption) ?_ ?_ | with_reducible refine hG5 _ _ _ _ _ _ _ _ _ _ _ (by assumption) ?_ ?_ ?_ ?_ ?_ | with_reducible refine hG6 _ _ _ _ _ (by assumption) ?_ ?_ | with_reducible refine cz_ltv ?_ (fun _ => ?_) | (show _ = _; simp only [zr_1, zr_2, zr_A (k := 90) (by decide)]) | rfl)
theorem zc_gg_M_clear : ∀ (n n' : Nat), n ≤ n' → (∀ (s : MS) (a0 b0 : Int32) (a1 b1 : Int32), ZIc p W x s → b0 = a0 → b1 = a1 → CZ p W x ((gg_M_clear N n).1 (Zp p W x s) b0 b1) ((gg_M_clear N n').1 s a0 a1)) ∧ (∀ (s : MS) (a0 b0 : Int32) (a1 b1 : Int32), ZIc p W x s → b0 = a0 → b1 = a1 → CZ p W x ((gg_M_clear N n).2.1 (Zp p W x s) b0 b1) ((gg_M_clear N n').2.1 s a0 a1)) ∧ (∀ (s : MS) (a0 b0 : Int32) (a1 b1 : Int32), ZIc p W x s → b0 = a0 → b1 = a1 → CZ p W x ((gg_M_clear N n).2.2.1 (Zp p W x s) b0 b1) ((gg_M_clear N n').2.2.1 s a0 a1)) ∧ (∀ (s : MS) (a0 b0 : Int32) (a1 b1 : Int32), ZIc p W x s → b0 = a0 → b1 = a1 → CZ p W x ((gg_M_clear N n).2.2.2.1 (Zp p W x s) b0 b1) ((gg_M_clear N n').2.2.2.1 s a0 a1)) ∧ (∀ (s : MS) (a0 b0 : Int32) (a1 b1 : Int32), ZIc p W x s → b0 = a0 → b1 = a1 → CZ p W x ((gg_M_clear N n).2.2.2.2.1 (Zp p W x s) b0 b1) ((gg_M_clear N n').2.2.2.2.1 s a0 a1)) ∧ (∀ (s : MS) (a0 b0 : Int32) (a1 b1 : Int32) (a2 b2 : Int32) (a3 b3 : Int32) (a4 b4 : Int32), ZIc p W x s → b0 = a0 → b1 = a1 → b2 = a2 → b3 = a3 → b4 = a4 → CZ p W x ((gg_M_clear N n).2.2.2.2.2.1 (Zp p W x s) b0 b1 b2 b3 b4) ((gg_M_clear N n').2.2.2.2.2.1 s a0 a1 a2 a3 a4)) ∧ (∀ (s : MS) (a0 b0 : Int32) (a1 b1 : Int32), ZIc p W x s → b0 = a0 → b1 = a1 → CZ p W x ((gg_M_clear N n).2.2.2.2.2.2 (Zp p W x s) b0 b1) ((gg_M_clear N n').2.2.2.2.2.2 s a0 a1)) := by
  intro n
  induction n with
  | zero => intro n' _; exact ⟨fun _ _ _ _ _ _ _ _ => cz_none, fun _ _ _ _ _ _ _ _ => cz_none, fun _ _ _ _ _ _ _ _ => cz_none, fun _ _ _ _ _ _ _ _ => cz_none, fun _ _ _ _ _ _ _ _ => cz_none, fun _ _ _ _ _ _ _ _ _ _ _ _ _ _ _ _ _ => cz_none, fun _ _ _ _ _ _ _ _ => cz_none⟩
  | succ n ih =>
    intro n' hn
    cases n' with
    | zero => omega
    | succ n' =>
    have ih' := ih n' (by omega)
    exact ⟨fun _ _ _ _ _ h e0 e1 => zc_fb_M_clear_22 (N := N) h e0 e1 ih'.1 ih'.2.1 ih'.2.2.1 ih'.2.2.2.1 ih'.2.2.2.2.1 ih'.2.2.2.2.2.1 ih'.2.2.2.2.2.2, fun _ _ _ _ _ h e0 e1 => zc_fb_M_clear_44 (N := N) h e0 e1 ih'.1 ih'.2.1 ih'.2.2.1 ih'.2.2.2.1 ih'.2.2.2.2.1 ih'.2.2.2.2.2.1 ih'.2.2.2.2.2.2, fun _ _ _ _ _ h e0 e1 => zc_fb_M_clear_91 (N := N) h e0 e1 ih'.1 ih'.2.1 ih'.2.2.1 ih'.2.2.2.1 ih'.2.2.2.2.1 ih'.2.2.2.2.2.1 ih'.2.2.2.2.2.2, fun _ _ _ _ _ h e0 e1 => zc_fb_M_clear_138 (N := N) h e0 e1 ih'.1 ih'.2.1 ih'.2.2.1 ih'.2.2.2.1 ih'.2.2.2.2.1 ih'.2.2.2.2.2.1 ih'.2.2.2.2.2.2, fun _ _ _ _ _ h e0 e1 => zc_fb_M_clear_204 (N := N) h e0 e1 ih'.1 ih'.2.1 ih'.2.2.1 ih'.2.2.2.1 ih'.2.2.2.2.1 ih'.2.2.2.2.2.1 ih'.2.2.2.2.2.2, fun _ _ _ _ _ _ _ _ _ _ _ h e0 e1 e2 e3 e4 => zc_fb_M_clear_281 (N := N) h e0 e1 e2 e3 e4 ih'.1 ih'.2.1 ih'.2.2.1 ih'.2.2.2.1 ih'.2.2.2.2.1 ih'.2.2.2.2.2.1 ih'.2.2.2.2.2.2, fun _ _ _ _ _ h e0 e1 => zc_fb_M_clear_337 (N := N) h e0 e1 ih'.1 ih'.2.1 ih'.2.2.1 ih'.2.2.2.1 ih'.2.2.2.2.1 ih'.2.2.2.2.2.1 ih'.2.2.2.2.2.2⟩
theorem zc_fm_M_clear {v1 v1' : Int32} (h : ZIc p W x u) (e_v1 : v1' = v1) : CZ p W x (fm_M_clear N (Zp p W x u) v1') (fm_M_clear N u v1) := by
  subst e_v1
  unfold fm_M_clear
  exact zc_fb_M_clear_0 h rfl ((zc_gg_M_clear N N (Nat.le_refl _)).1) ((zc_gg_M_clear N N (Nat.le_refl _)).2.1) ((zc_gg_M_clear N N (Nat.le_refl _)).2.2.1) ((zc_gg_M_clear N N (Nat.le_refl _)).2.2.2.1) ((zc_gg_M_clear N N (Nat.le_refl _)).2.2.2.2.1) ((zc_gg_M_clear N N (Nat.le_refl _)).2.2.2.2.2.1) ((zc_gg_M_clear N N (Nat.le_refl _)).2.2.2.2.2.2)
theorem zc_fb_M_hand_0 {v1 v1' : Int32} {v2 v2' : Int64} {G' G : Unit} (h : ZIc p W x u) (e_v1 : v1' = v1) (e_v2 : v2' = v2)  : CZ p W x (fb_M_hand_0 N G' (Zp p W x u) v1' v2') (fb_M_hand_0 N G u v1 v2) := by
  subst e_v1
  subst e_v2
  unfold fb_M_hand_0
  repeat' (first | with_reducible rfl | with_reducible assumption | with_reducible refine cz_br ?_ ?_ ?_ | with_reducible refine cz_bnd ?_ (fun _ _ _ => ?_) | with_reducible refine cz_ck ?_ ?_ | with_reducible refine cz_some ?_ (by assumption) | with_reducible refine cz_A (by first | decide | exact And.right (by assumption)) ?_ (by assumption) (fun _ => ?_) | with_reducible refine cz_J (by first | decide | exact And.left (by assumption)) ?_ (by assumption) (fun _ => ?_) | with_reducible refine cz_I ?_ (by assumption) (fun _ => ?_) | with_reducible refine cz_L ?_ (by assumption) (fun _ => ?_) | with_reducible refine cz_ltv ?_ (fun _ => ?_) | (show _ = _; simp only [zr_1, zr_2]) | rfl)
theorem zc_fm_M_hand {v1 v1' : Int32} {v2 v2' : Int64} (h : ZIc p W x u) (e_v1 : v1' = v1) (e_v2 : v2' = v2) : CZ p W x (fm_M_hand N (Zp p W x u) v1' v2') (fm_M_hand N u v1 v2) := by
  subst e_v1
  subst e_v2
  unfold fm_M_hand
  exact zc_fb_M_hand_0 h rfl rfl
theorem zc_fb_M_handNone_0 {G' G : Unit} (h : ZIc p W x u)  : CZ p W x (fb_M_handNone_0 N G' (Zp p W x u)) (fb_M_handNone_0 N G u) := by
  unfold fb_M_handNone_0
  repeat' (first | with_reducible rfl | with_reducible assumption | with_reducible refine cz_br ?_ ?_ ?_ | with_reducible refine cz_bnd ?_ (fun _ _ _ => ?_) | with_reducible refine cz_ck ?_ ?_ | with_reducible refine cz_some ?_ (by assumption) | with_reducible refine cz_A (by first | decide | exact And.right (by assumption)) ?_ (by assumption) (fun _ => ?_) | with_reducible refine cz_J (by first | decide | exact And.left (by assumption)) ?_ (by assumption) (fun _ => ?_) | with_reducible refine cz_I ?_ (by assumption) (fun _ => ?_) | with_reducible refine cz_L ?_ (by assumption) (fun _ => ?_) | with_reducible refine zc_fm_M_term (by assumption) ?_ ?_ | with_reducible refine cz_ltv ?_ (fun _ => ?_) | (show _ = _; simp only [zr_1, zr_2]) | rfl)
theorem zc_fm_M_handNone (h : ZIc p W x u) : CZ p W x (fm_M_handNone N (Zp p W x u)) (fm_M_handNone N u) := by
  unfold fm_M_handNone
  exact zc_fb_M_handNone_0 h
theorem zc_fb_M_wants_38 {t0 t0' : Int32} {G' G : Unit} (h : ZIc p W x u) (e_t0 : t0' = t0)  : CZ p W x (fb_M_wants_38 N G' (Zp p W x u) t0') (fb_M_wants_38 N G u t0) := by
  subst e_t0
  unfold fb_M_wants_38
  repeat' (first | with_reducible rfl | with_reducible assumption | with_reducible refine cz_br ?_ ?_ ?_ | with_reducible refine cz_bnd ?_ (fun _ _ _ => ?_) | with_reducible refine cz_ck ?_ ?_ | with_reducible refine cz_some ?_ (by assumption) | with_reducible refine cz_A (by first | decide | exact And.right (by assumption)) ?_ (by assumption) (fun _ => ?_) | with_reducible refine cz_J (by first | decide | exact And.left (by assumption)) ?_ (by assumption) (fun _ => ?_) | with_reducible refine cz_I ?_ (by assumption) (fun _ => ?_) | with_reducible refine cz_L ?_ (by assumption) (fun _ => ?_) | with_reducible refine cz_ltv ?_ (fun _ => ?_) | (show _ = _; simp only [zr_1, zr_2]) | rfl)
theorem zc_fb_M_wants_19 {v1 v1' : Int32} {v2 v2' : Int32} {G' G : Unit} (h : ZIc p W x u) (e_v1 : v1' = v1) (e_v2 : v2' = v2)  : CZ p W x (fb_M_wants_19 N G' (Zp p W x u) v1' v2') (fb_M_wants_19 N G u v1 v2) := by
  subst e_v1
  subst e_v2
  unfold fb_M_wants_19
  repeat' (first | with_reducible rfl | with_reducible assumption | with_reducible refine cz_br ?_ ?_ ?_ | with_reducible refine cz_bnd ?_ (fun _ _ _ => ?_) | with_reducible refine cz_ck ?_ ?_ | with_reducible refine cz_some ?_ (by assumption) | with_reducible refine cz_A (by first | decide | exact And.right (by assumption)) ?_ (by assumption) (fun _ => ?_) | with_reducible refine cz_J (by first | decide | exact And.left (by assumption)) ?_ (by assumption) (fun _ => ?_) | with_reducible refine cz_I ?_ (by assumption) (fun _ => ?_) | with_reducible refine cz_L ?_ (by assumption) (fun _ => ?_) | with_reducible refine zc_fb_M_wants_38 (by assumption) ?_ | with_reducible refine cz_ltv ?_ (fun _ => ?_) | (show _ = _; simp only [zr_1, zr_2, zr_A (k := 89) (by decide)]) | rfl)
theorem zc_fb_M_wants_0 {v1 v1' : Int32} {v2 v2' : Int32} {G' G : Unit} (h : ZIc p W x u) (e_v1 : v1' = v1) (e_v2 : v2' = v2)  : CZ p W x (fb_M_wants_0 N G' (Zp p W x u) v1' v2') (fb_M_wants_0 N G u v1 v2) := by
  subst e_v1
  subst e_v2
  unfold fb_M_wants_0
  repeat' (first | with_reducible rfl | with_reducible assumption | with_reducible refine cz_br ?_ ?_ ?_ | with_reducible refine cz_bnd ?_ (fun _ _ _ => ?_) | with_reducible refine cz_ck ?_ ?_ | with_reducible refine cz_some ?_ (by assumption) | with_reducible refine cz_A (by first | decide | exact And.right (by assumption)) ?_ (by assumption) (fun _ => ?_) | with_reducible refine cz_J (by first | decide | exact And.left (by assumption)) ?_ (by assumption) (fun _ => ?_) | with_reducible refine cz_I ?_ (by assumption) (fun _ => ?_) | with_reducible refine cz_L ?_ (by assumption) (fun _ => ?_) | with_reducible refine zc_fb_M_wants_19 (by assumption) ?_ ?_ | with_reducible refine zc_fm_M_clear (by assumption) ?_ | with_reducible refine cz_ltv ?_ (fun _ => ?_) | (show _ = _; simp only [zr_1, zr_2, zr_A (k := 89) (by decide)]) | rfl)
theorem zc_fm_M_wants {v1 v1' : Int32} {v2 v2' : Int32} (h : ZIc p W x u) (e_v1 : v1' = v1) (e_v2 : v2' = v2) : CZ p W x (fm_M_wants N (Zp p W x u) v1' v2') (fm_M_wants N u v1 v2) := by
  subst e_v1
  subst e_v2
  unfold fm_M_wants
  exact zc_fb_M_wants_0 h rfl rfl
theorem zc_fb_M_copySize_132 {t0 t0' : Int32} {G' G : (MS → Int32 → Int32 → Int32 → Option (MS × Int32)) × (MS → Int32 → Int32 → Int32 → Int64 → Int32 → Int32 → Option (MS × Int32))} (h : ZIc p W x u) (e_t0 : t0' = t0) (hG0 : ∀ (s : MS) (a0 b0 : Int32) (a1 b1 : Int32) (a2 b2 : Int32), ZIc p W x s → b0 = a0 → b1 = a1 → b2 = a2 → CZ p W x (G'.1 (Zp p W x s) b0 b1 b2) (G.1 s a0 a1 a2)) (hG1 : ∀ (s : MS) (a0 b0 : Int32) (a1 b1 : Int32) (a2 b2 : Int32) (a3 b3 : Int64) (a4 b4 : Int32) (a5 b5 : Int32), ZIc p W x s → b0 = a0 → b1 = a1 → b2 = a2 → b3 = a3 → b4 = a4 → b5 = a5 → CZ p W x (G'.2 (Zp p W x s) b0 b1 b2 b3 b4 b5) (G.2 s a0 a1 a2 a3 a4 a5)) : CZ p W x (fb_M_copySize_132 N G' (Zp p W x u) t0') (fb_M_copySize_132 N G u t0) := by
  subst e_t0
  unfold fb_M_copySize_132
  repeat' (first | with_reducible rfl | with_reducible assumption | with_reducible refine cz_br ?_ ?_ ?_ | with_reducible refine cz_bnd ?_ (fun _ _ _ => ?_) | with_reducible refine cz_ck ?_ ?_ | with_reducible refine cz_some ?_ (by assumption) | with_reducible refine cz_A (by first | decide | exact And.right (by assumption)) ?_ (by assumption) (fun _ => ?_) | with_reducible refine cz_J (by first | decide | exact And.left (by assumption)) ?_ (by assumption) (fun _ => ?_) | with_reducible refine cz_I ?_ (by assumption) (fun _ => ?_) | with_reducible refine cz_L ?_ (by assumption) (fun _ => ?_) | with_reducible refine hG0 _ _ _ _ _ _ _ (by assumption) ?_ ?_ ?_ | with_reducible refine hG1 _ _ _ _ _ _ _ _ _ _ _ _ _ (by assumption) ?_ ?_ ?_ ?_ ?_ ?_ | with_reducible refine cz_ltv ?_ (fun _ => ?_) | (show _ = _; simp only [zr_1, zr_2]) | rfl)
theorem zc_fb_M_copySize_116 {v4 v4' : Int32} {G' G : (MS → Int32 → Int32 → Int32 → Option (MS × Int32)) × (MS → Int32 → Int32 → Int32 → Int64 → Int32 → Int32 → Option (MS × Int32))} (h : ZIc p W x u) (e_v4 : v4' = v4) (hG0 : ∀ (s : MS) (a0 b0 : Int32) (a1 b1 : Int32) (a2 b2 : Int32), ZIc p W x s → b0 = a0 → b1 = a1 → b2 = a2 → CZ p W x (G'.1 (Zp p W x s) b0 b1 b2) (G.1 s a0 a1 a2)) (hG1 : ∀ (s : MS) (a0 b0 : Int32) (a1 b1 : Int32) (a2 b2 : Int32) (a3 b3 : Int64) (a4 b4 : Int32) (a5 b5 : Int32), ZIc p W x s → b0 = a0 → b1 = a1 → b2 = a2 → b3 = a3 → b4 = a4 → b5 = a5 → CZ p W x (G'.2 (Zp p W x s) b0 b1 b2 b3 b4 b5) (G.2 s a0 a1 a2 a3 a4 a5)) : CZ p W x (fb_M_copySize_116 N G' (Zp p W x u) v4') (fb_M_copySize_116 N G u v4) := by
  subst e_v4
  unfold fb_M_copySize_116
  repeat' (first | with_reducible rfl | with_reducible assumption | with_reducible refine cz_br ?_ ?_ ?_ | with_reducible refine cz_bnd ?_ (fun _ _ _ => ?_) | with_reducible refine cz_ck ?_ ?_ | with_reducible refine cz_some ?_ (by assumption) | with_reducible refine cz_A (by first | decide | exact And.right (by assumption)) ?_ (by assumption) (fun _ => ?_) | with_reducible refine cz_J (by first | decide | exact And.left (by assumption)) ?_ (by assumption) (fun _ => ?_) | with_reducible refine cz_I ?_ (by assumption) (fun _ => ?_) | with_reducible refine cz_L ?_ (by assumption) (fun _ => ?_) | with_reducible refine zc_fb_M_copySize_132 (by assumption) ?_ hG0 hG1 | with_reducible refine hG0 _ _ _ _ _ _ _ (by assumption) ?_ ?_ ?_ | with_reducible refine hG1 _ _ _ _ _ _ _ _ _ _ _ _ _ (by assumption) ?_ ?_ ?_ ?_ ?_ ?_ | with_reducible refine cz_ltv ?_ (fun _ => ?_) | (show _ = _; simp only [zr_1, zr_2]) | rfl)
theorem zc_fb_M_copySize_113 {v1 v1' : Int32} {v4 v4' : Int32} {v5 v5' : Int32} {G' G : (MS → Int32 → Int32 → Int32 → Option (MS × Int32)) × (MS → Int32 → Int32 → Int32 → Int64 → Int32 → Int32 → Option (MS × Int32))} (h : ZIc p W x u) (e_v1 : v1' = v1) (e_v4 : v4' = v4) (e_v5 : v5' = v5) (hG0 : ∀ (s : MS) (a0 b0 : Int32) (a1 b1 : Int32) (a2 b2 : Int32), ZIc p W x s → b0 = a0 → b1 = a1 → b2 = a2 → CZ p W x (G'.1 (Zp p W x s) b0 b1 b2) (G.1 s a0 a1 a2)) (hG1 : ∀ (s : MS) (a0 b0 : Int32) (a1 b1 : Int32) (a2 b2 : Int32) (a3 b3 : Int64) (a4 b4 : Int32) (a5 b5 : Int32), ZIc p W x s → b0 = a0 → b1 = a1 → b2 = a2 → b3 = a3 → b4 = a4 → b5 = a5 → CZ p W x (G'.2 (Zp p W x s) b0 b1 b2 b3 b4 b5) (G.2 s a0 a1 a2 a3 a4 a5)) : CZ p W x (fb_M_copySize_113 N G' (Zp p W x u) v1' v4' v5') (fb_M_copySize_113 N G u v1 v4 v5) := by
  subst e_v1
  subst e_v4
  subst e_v5
  unfold fb_M_copySize_113
  repeat' (first | with_reducible rfl | with_reducible assumption | with_reducible refine cz_br ?_ ?_ ?_ | with_reducible refine cz_bnd ?_ (fun _ _ _ => ?_) | with_reducible refine cz_ck ?_ ?_ | with_reducible refine cz_some ?_ (by assumption) | with_reducible refine cz_A (by first | decide | exact And.right (by assumption)) ?_ (by assumption) (fun _ => ?_) | with_reducible refine cz_J (by first | decide | exact And.left (by assumption)) ?_ (by assumption) (fun _ => ?_) | with_reducible refine cz_I ?_ (by assumption) (fun _ => ?_) | with_reducible refine cz_L ?_ (by assumption) (fun _ => ?_) | with_reducible refine hG0 _ _ _ _ _ _ _ (by assumption) ?_ ?_ ?_ | with_reducible refine hG1 _ _ _ _ _ _ _ _ _ _ _ _ _ (by assumption) ?_ ?_ ?_ ?_ ?_ ?_ | with_reducible refine cz_ltv ?_ (fun _ => ?_) | (show _ = _; simp only [zr_1, zr_2]) | rfl)
theorem zc_fb_M_copySize_69 {v1 v1' : Int32} {v4 v4' : Int32} {v5 v5' : Int32} {v6 v6' : Int64} {v8 v8' : Int32} {v9 v9' : Int32} {G' G : (MS → Int32 → Int32 → Int32 → Option (MS × Int32)) × (MS → Int32 → Int32 → Int32 → Int64 → Int32 → Int32 → Option (MS × Int32))} (h : ZIc p W x u) (e_v1 : v1' = v1) (e_v4 : v4' = v4) (e_v5 : v5' = v5) (e_v6 : v6' = v6) (e_v8 : v8' = v8) (e_v9 : v9' = v9) (hG0 : ∀ (s : MS) (a0 b0 : Int32) (a1 b1 : Int32) (a2 b2 : Int32), ZIc p W x s → b0 = a0 → b1 = a1 → b2 = a2 → CZ p W x (G'.1 (Zp p W x s) b0 b1 b2) (G.1 s a0 a1 a2)) (hG1 : ∀ (s : MS) (a0 b0 : Int32) (a1 b1 : Int32) (a2 b2 : Int32) (a3 b3 : Int64) (a4 b4 : Int32) (a5 b5 : Int32), ZIc p W x s → b0 = a0 → b1 = a1 → b2 = a2 → b3 = a3 → b4 = a4 → b5 = a5 → CZ p W x (G'.2 (Zp p W x s) b0 b1 b2 b3 b4 b5) (G.2 s a0 a1 a2 a3 a4 a5)) : CZ p W x (fb_M_copySize_69 N G' (Zp p W x u) v1' v4' v5' v6' v8' v9') (fb_M_copySize_69 N G u v1 v4 v5 v6 v8 v9) := by
  subst e_v1
  subst e_v4
  subst e_v5
  subst e_v6
  subst e_v8
  subst e_v9
  unfold fb_M_copySize_69
  repeat' (first | with_reducible rfl | with_reducible assumption | with_reducible refine cz_br ?_ ?_ ?_ | with_reducible refine cz_bnd ?_ (fun _ _ _ => ?_) | with_reducible refine cz_ck ?_ ?_ | with_reducible refine cz_some ?_ (by assumption) | with_reducible refine cz_A (by first | decide | exact And.right (by assumption)) ?_ (by assumption) (fun _ => ?_) | with_reducible refine cz_J (by first | decide | exact And.left (by assumption)) ?_ (by assumption) (fun _ => ?_) | with_reducible refine cz_I ?_ (by assumption) (fun _ => ?_) | with_reducible refine cz_L ?_ (by assumption) (fun _ => ?_) | with_reducible refine zc_fb_M_copySize_113 (by assumption) ?_ ?_ ?_ hG0 hG1 | with_reducible refine zc_fm_M_cell (by assumption) ?_ ?_ | with_reducible refine zc_fm_M_valueOf (by assumption) ?_ | with_reducible refine hG0 _ _ _ _ _ _ _ (by assumption) ?_ ?_ ?_ | with_reducible refine hG1 _ _ _ _ _ _ _ _ _ _ _ _ _ (by assumption) ?_ ?_ ?_ ?_ ?_ ?_ | with_reducible refine cz_ltv ?_ (fun _ => ?_) | (show _ = _; simp only [zr_1, zr_2, zr_J (k := 141) (by decide)]) | rfl)
theorem zc_fb_M_copySize_13 {v1 v1' : Int32} {v4 v4' : Int32} {v5 v5' : Int32} {G' G : (MS → Int32 → Int32 → Int32 → Option (MS × Int32)) × (MS → Int32 → Int32 → Int32 → Int64 → Int32 → Int32 → Option (MS × Int32))} (h : ZIc p W x u) (e_v1 : v1' = v1) (e_v4 : v4' = v4) (e_v5 : v5' = v5) (hG0 : ∀ (s : MS) (a0 b0 : Int32) (a1 b1 : Int32) (a2 b2 : Int32), ZIc p W x s → b0 = a0 → b1 = a1 → b2 = a2 → CZ p W x (G'.1 (Zp p W x s) b0 b1 b2) (G.1 s a0 a1 a2)) (hG1 : ∀ (s : MS) (a0 b0 : Int32) (a1 b1 : Int32) (a2 b2 : Int32) (a3 b3 : Int64) (a4 b4 : Int32) (a5 b5 : Int32), ZIc p W x s → b0 = a0 → b1 = a1 → b2 = a2 → b3 = a3 → b4 = a4 → b5 = a5 → CZ p W x (G'.2 (Zp p W x s) b0 b1 b2 b3 b4 b5) (G.2 s a0 a1 a2 a3 a4 a5)) : CZ p W x (fb_M_copySize_13 N G' (Zp p W x u) v1' v4' v5') (fb_M_copySize_13 N G u v1 v4 v5) := by
  subst e_v1
  subst e_v4
  subst e_v5
  unfold fb_M_copySize_13
  repeat' (first | with_reducible rfl | with_reducible assumption | with_reducible refine cz_br ?_ ?_ ?_ | with_reducible refine cz_bnd ?_ (fun _ _ _ => ?_) | with_reducible refine cz_ck ?_ ?_ | with_reducible refine cz_some ?_ (by assumption) | with_reducible refine cz_A (by first | decide | exact And.right (by assumption)) ?_ (by assumption) (fun _ => ?_) | with_reducible refine cz_J (by first | decide | exact And.left (by assumption)) ?_ (by assumption) (fun _ => ?_) | with_reducible refine cz_I ?_ (by assumption) (fun _ => ?_) | with_reducible refine cz_L ?_ (by assumption) (fun _ => ?_) | with_reducible refine zc_fb_M_copySize_113 (by assumption) ?_ ?_ ?_ hG0 hG1 | with_reducible refine zc_fb_M_copySize_116 (by assumption) ?_ hG0 hG1 | with_reducible refine zc_fm_M_partsFrom (by assumption) ?_ | with_reducible refine zc_fm_M_sizeOf (by assumption) ?_ ?_ | with_reducible refine zc_fm_M_inHeap (by assumption) ?_ | with_reducible refine hG0 _ _ _ _ _ _ _ (by assumption) ?_ ?_ ?_ | with_reducible refine hG1 _ _ _ _ _ _ _ _ _ _ _ _ _ (by assumption) ?_ ?_ ?_ ?_ ?_ ?_ | with_reducible refine cz_ltv ?_ (fun _ => ?_) | (show _ = _; simp only [zr_1, zr_2, zr_J (k := 141) (by decide)]) | rfl)
theorem zc_fb_M_copySize_0 {v1 v1' : Int32} {v2 v2' : Int64} {G' G : (MS → Int32 → Int32 → Int32 → Option (MS × Int32)) × (MS → Int32 → Int32 → Int32 → Int64 → Int32 → Int32 → Option (MS × Int32))} (h : ZIc p W x u) (e_v1 : v1' = v1) (e_v2 : v2' = v2) (hG0 : ∀ (s : MS) (a0 b0 : Int32) (a1 b1 : Int32) (a2 b2 : Int32), ZIc p W x s → b0 = a0 → b1 = a1 → b2 = a2 → CZ p W x (G'.1 (Zp p W x s) b0 b1 b2) (G.1 s a0 a1 a2)) (hG1 : ∀ (s : MS) (a0 b0 : Int32) (a1 b1 : Int32) (a2 b2 : Int32) (a3 b3 : Int64) (a4 b4 : Int32) (a5 b5 : Int32), ZIc p W x s → b0 = a0 → b1 = a1 → b2 = a2 → b3 = a3 → b4 = a4 → b5 = a5 → CZ p W x (G'.2 (Zp p W x s) b0 b1 b2 b3 b4 b5) (G.2 s a0 a1 a2 a3 a4 a5)) : CZ p W x (fb_M_copySize_0 N G' (Zp p W x u) v1' v2') (fb_M_copySize_0 N G u v1 v2) := by
  subst e_v1
  subst e_v2
  unfold fb_M_copySize_0
  repeat' (first | with_reducible rfl | with_reducible assumption | with_reducible refine cz_br ?_ ?_ ?_ | with_reducible refine cz_bnd ?_ (fun _ _ _ => ?_) | with_reducible refine cz_ck ?_ ?_ | with_reducible refine cz_some ?_ (by assumption) | with_reducible refine cz_A (by first | decide | exact And.right (by assumption)) ?_ (by assumption) (fun _ => ?_) | with_reducible refine cz_J (by first | decide | exact And.left (by assumption)) ?_ (by assumption) (fun _ => ?_) | with_reducible refine cz_I ?_ (by assumption) (fun _ => ?_) | with_reducible refine cz_L ?_ (by assumption) (fun _ => ?_) | with_reducible refine hG0 _ _ _ _ _ _ _ (by assumption) ?_ ?_ ?_ | with_reducible refine hG1 _ _ _ _ _ _ _ _ _ _ _ _ _ (by assumption) ?_ ?_ ?_ ?_ ?_ ?_ | with_reducible refine cz_ltv ?_ (fun _ => ?_) | (show _ = _; simp only [zr_1, zr_2, zr_J (k := 141) (by decide)]) | rfl)
theorem zc_gg_M_copySize : ∀ (n n' : Nat), n ≤ n' → (∀ (s : MS) (a0 b0 : Int32) (a1 b1 : Int32) (a2 b2 : Int32), ZIc p W x s → b0 = a0 → b1 = a1 → b2 = a2 → CZ p W x ((gg_M_copySize N n).1 (Zp p W x s) b0 b1 b2) ((gg_M_copySize N n').1 s a0 a1 a2)) ∧ (∀ (s : MS) (a0 b0 : Int32) (a1 b1 : Int32) (a2 b2 : Int32) (a3 b3 : Int64) (a4 b4 : Int32) (a5 b5 : Int32), ZIc p W x s → b0 = a0 → b1 = a1 → b2 = a2 → b3 = a3 → b4 = a4 → b5 = a5 → CZ p W x ((gg_M_copySize N n).2 (Zp p W x s) b0 b1 b2 b3 b4 b5) ((gg_M_copySize N n').2 s a0 a1 a2 a3 a4 a5)) := by
  intro n
  induction n with
  | zero => intro n' _; exact ⟨fun _ _ _ _ _ _ _ _ _ _ _ => cz_none, fun _ _ _ _ _ _ _ _ _ _ _ _ _ _ _ _ _ _ _ _ => cz_none⟩
  | succ n ih =>
    intro n' hn
    cases n' with
    | zero => omega
    | succ n' =>
    have ih' := ih n' (by omega)
    exact ⟨fun _ _ _ _ _ _ _ h e0 e1 e2 => zc_fb_M_copySize_13 (N := N) h e0 e1 e2 ih'.1 ih'.2, fun _ _ _ _ _ _ _ _ _ _ _ _ _ h e0 e1 e2 e3 e4 e5 => zc_fb_M_copySize_69 (N := N) h e0 e1 e2 e3 e4 e5 ih'.1 ih'.2⟩
theorem zc_fm_M_copySize {v1 v1' : Int32} {v2 v2' : Int64} (h : ZIc p W x u) (e_v1 : v1' = v1) (e_v2 : v2' = v2) : CZ p W x (fm_M_copySize N (Zp p W x u) v1' v2') (fm_M_copySize N u v1 v2) := by
  subst e_v1
  subst e_v2
  unfold fm_M_copySize
  exact zc_fb_M_copySize_0 h rfl rfl ((zc_gg_M_copySize N N (Nat.le_refl _)).1) ((zc_gg_M_copySize N N (Nat.le_refl _)).2)
theorem zc_fb_M_copy_214 {v1 v1' : Int32} {v4 v4' : Int32} {v5 v5' : Int64} {v7 v7' : Int32} {v8 v8' : Int64} {v11 v11' : Int32} {v12 v12' : Int32} {v13 v13' : Int32} {G' G : (MS → Int32 → Int32 → Int64 → Int32 → Option (MS × Int64)) × (MS → Int32 → Int32 → Int64 → Int32 → Int64 → Int32 → Int32 → Int32 → Option (MS × Int64))} (h : ZIc p W x u) (e_v1 : v1' = v1) (e_v4 : v4' = v4) (e_v5 : v5' = v5) (e_v7 : v7' = v7) (e_v8 : v8' = v8) (e_v11 : v11' = v11) (e_v12 : v12' = v12) (e_v13 : v13' = v13) (hG0 : ∀ (s : MS) (a0 b0 : Int32) (a1 b1 : Int32) (a2 b2 : Int64) (a3 b3 : Int32), ZIc p W x s → b0 = a0 → b1 = a1 → b2 = a2 → b3 = a3 → CZ p W x (G'.1 (Zp p W x s) b0 b1 b2 b3) (G.1 s a0 a1 a2 a3)) (hG1 : ∀ (s : MS) (a0 b0 : Int32) (a1 b1 : Int32) (a2 b2 : Int64) (a3 b3 : Int32) (a4 b4 : Int64) (a5 b5 : Int32) (a6 b6 : Int32) (a7 b7 : Int32), ZIc p W x s → b0 = a0 → b1 = a1 → b2 = a2 → b3 = a3 → b4 = a4 → b5 = a5 → b6 = a6 → b7 = a7 → CZ p W x (G'.2 (Zp p W x s) b0 b1 b2 b3 b4 b5 b6 b7) (G.2 s a0 a1 a2 a3 a4 a5 a6 a7)) : CZ p W x (fb_M_copy_214 N G' (Zp p W x u) v1' v4' v5' v7' v8' v11' v12' v13') (fb_M_copy_214 N G u v1 v4 v5 v7 v8 v11 v12 v13) := by
  subst e_v1
  subst e_v4
  subst e_v5
  subst e_v7
  subst e_v8
  subst e_v11
  subst e_v12
  subst e_v13
  unfold fb_M_copy_214
  repeat' (first | with_reducible rfl | with_reducible assumption | with_reducible refine cz_br ?_ ?_ ?_ | with_reducible refine cz_bnd ?_ (fun _ _ _ => ?_) | with_reducible refine cz_ck ?_ ?_ | with_reducible refine cz_some ?_ (by assumption) | with_reducible refine cz_A (by first | decide | exact And.right (by assumption)) ?_ (by assumption) (fun _ => ?_) | with_reducible refine cz_J (by first | decide | exact And.left (by assumption)) ?_ (by assumption) (fun _ => ?_) | with_reducible refine cz_I ?_ (by assumption) (fun _ => ?_) | with_reducible refine cz_L ?_ (by assumption) (fun _ => ?_) | with_reducible refine hG0 _ _ _ _ _ _ _ _ _ (by assumption) ?_ ?_ ?_ ?_ | with_reducible refine hG1 _ _ _ _ _ _ _ _ _ _ _ _ _ _ _ _ _ (by assumption) ?_ ?_ ?_ ?_ ?_ ?_ ?_ ?_ | with_reducible refine cz_ltv ?_ (fun _ => ?_) | (show _ = _; simp only [zr_1, zr_2]) | rfl)
theorem zc_fb_M_copy_131 {v1 v1' : Int32} {v4 v4' : Int32} {v5 v5' : Int64} {v7 v7' : Int32} {v8 v8' : Int64} {v11 v11' : Int32} {v12 v12' : Int32} {v13 v13' : Int32} {G' G : (MS → Int32 → Int32 → Int64 → Int32 → Option (MS × Int64)) × (MS → Int32 → Int32 → Int64 → Int32 → Int64 → Int32 → Int32 → Int32 → Option (MS × Int64))} (h : ZIc p W x u) (e_v1 : v1' = v1) (e_v4 : v4' = v4) (e_v5 : v5' = v5) (e_v7 : v7' = v7) (e_v8 : v8' = v8) (e_v11 : v11' = v11) (e_v12 : v12' = v12) (e_v13 : v13' = v13) (hG0 : ∀ (s : MS) (a0 b0 : Int32) (a1 b1 : Int32) (a2 b2 : Int64) (a3 b3 : Int32), ZIc p W x s → b0 = a0 → b1 = a1 → b2 = a2 → b3 = a3 → CZ p W x (G'.1 (Zp p W x s) b0 b1 b2 b3) (G.1 s a0 a1 a2 a3)) (hG1 : ∀ (s : MS) (a0 b0 : Int32) (a1 b1 : Int32) (a2 b2 : Int64) (a3 b3 : Int32) (a4 b4 : Int64) (a5 b5 : Int32) (a6 b6 : Int32) (a7 b7 : Int32), ZIc p W x s → b0 = a0 → b1 = a1 → b2 = a2 → b3 = a3 → b4 = a4 → b5 = a5 → b6 = a6 → b7 = a7 → CZ p W x (G'.2 (Zp p W x s) b0 b1 b2 b3 b4 b5 b6 b7) (G.2 s a0 a1 a2 a3 a4 a5 a6 a7)) : CZ p W x (fb_M_copy_131 N G' (Zp p W x u) v1' v4' v5' v7' v8' v11' v12' v13') (fb_M_copy_131 N G u v1 v4 v5 v7 v8 v11 v12 v13) := by
  subst e_v1
  subst e_v4
  subst e_v5
  subst e_v7
  subst e_v8
  subst e_v11
  subst e_v12
  subst e_v13
  unfold fb_M_copy_131
  repeat' (first | with_reducible rfl | with_reducible assumption | with_reducible refine cz_br ?_ ?_ ?_ | with_reducible refine cz_bnd ?_ (fun _ _ _ => ?_) | with_reducible refine cz_ck ?_ ?_ | with_reducible refine cz_some ?_ (by assumption) | with_reducible refine cz_A (by first | decide | exact And.right (by assumption)) ?_ (by assumption) (fun _ => ?_) | with_reducible refine cz_J (by first | decide | exact And.left (by assumption)) ?_ (by assumption) (fun _ => ?_) | with_reducible refine cz_I ?_ (by assumption) (fun _ => ?_) | with_reducible refine cz_L ?_ (by assumption) (fun _ => ?_) | with_reducible refine zc_fb_M_copy_214 (by assumption) ?_ ?_ ?_ ?_ ?_ ?_ ?_ ?_ hG0 hG1 | with_reducible refine zc_fm_M_partsFrom (by assumption) ?_ | with_reducible refine zc_fm_M_cell (by assumption) ?_ ?_ | with_reducible refine zc_fm_M_valueOf (by assumption) ?_ | with_reducible refine zc_fm_M_inHeap (by assumption) ?_ | with_reducible refine hG0 _ _ _ _ _ _ _ _ _ (by assumption) ?_ ?_ ?_ ?_ | with_reducible refine hG1 _ _ _ _ _ _ _ _ _ _ _ _ _ _ _ _ _ (by assumption) ?_ ?_ ?_ ?_ ?_ ?_ ?_ ?_ | with_reducible refine cz_ltv ?_ (fun _ => ?_) | (show _ = _; simp only [zr_1, zr_2, zr_A (k := 142) (by decide), zr_J (k := 88) (by decide), zr_J (k := 141) (by decide)]) | rfl)
theorem zc_fb_M_copy_128 {v1 v1' : Int32} {v4 v4' : Int32} {v5 v5' : Int64} {v7 v7' : Int32} {v8 v8' : Int64} {v11 v11' : Int32} {v12 v12' : Int32} {G' G : (MS → Int32 → Int32 → Int64 → Int32 → Option (MS × Int64)) × (MS → Int32 → Int32 → Int64 → Int32 → Int64 → Int32 → Int32 → Int32 → Option (MS × Int64))} (h : ZIc p W x u) (e_v1 : v1' = v1) (e_v4 : v4' = v4) (e_v5 : v5' = v5) (e_v7 : v7' = v7) (e_v8 : v8' = v8) (e_v11 : v11' = v11) (e_v12 : v12' = v12) (hG0 : ∀ (s : MS) (a0 b0 : Int32) (a1 b1 : Int32) (a2 b2 : Int64) (a3 b3 : Int32), ZIc p W x s → b0 = a0 → b1 = a1 → b2 = a2 → b3 = a3 → CZ p W x (G'.1 (Zp p W x s) b0 b1 b2 b3) (G.1 s a0 a1 a2 a3)) (hG1 : ∀ (s : MS) (a0 b0 : Int32) (a1 b1 : Int32) (a2 b2 : Int64) (a3 b3 : Int32) (a4 b4 : Int64) (a5 b5 : Int32) (a6 b6 : Int32) (a7 b7 : Int32), ZIc p W x s → b0 = a0 → b1 = a1 → b2 = a2 → b3 = a3 → b4 = a4 → b5 = a5 → b6 = a6 → b7 = a7 → CZ p W x (G'.2 (Zp p W x s) b0 b1 b2 b3 b4 b5 b6 b7) (G.2 s a0 a1 a2 a3 a4 a5 a6 a7)) : CZ p W x (fb_M_copy_128 N G' (Zp p W x u) v1' v4' v5' v7' v8' v11' v12') (fb_M_copy_128 N G u v1 v4 v5 v7 v8 v11 v12) := by
  subst e_v1
  subst e_v4
  subst e_v5
  subst e_v7
  subst e_v8
  subst e_v11
  subst e_v12
  unfold fb_M_copy_128
  repeat' (first | with_reducible rfl | with_reducible assumption | with_reducible refine cz_br ?_ ?_ ?_ | with_reducible refine cz_bnd ?_ (fun _ _ _ => ?_) | with_reducible refine cz_ck ?_ ?_ | with_reducible refine cz_some ?_ (by assumption) | with_reducible refine cz_A (by first | decide | exact And.right (by assumption)) ?_ (by assumption) (fun _ => ?_) | with_reducible refine cz_J (by first | decide | exact And.left (by assumption)) ?_ (by assumption) (fun _ => ?_) | with_reducible refine cz_I ?_ (by assumption) (fun _ => ?_) | with_reducible refine cz_L ?_ (by assumption) (fun _ => ?_) | with_reducible refine hG0 _ _ _ _ _ _ _ _ _ (by assumption) ?_ ?_ ?_ ?_ | with_reducible refine hG1 _ _ _ _ _ _ _ _ _ _ _ _ _ _ _ _ _ (by assumption) ?_ ?_ ?_ ?_ ?_ ?_ ?_ ?_ | with_reducible refine cz_ltv ?_ (fun _ => ?_) | (show _ = _; simp only [zr_1, zr_2]) | rfl)
theorem zc_fb_M_copy_42 {v1 v1' : Int32} {v4 v4' : Int32} {v5 v5' : Int64} {v7 v7' : Int32} {G' G : (MS → Int32 → Int32 → Int64 → Int32 → Option (MS × Int64)) × (MS → Int32 → Int32 → Int64 → Int32 → Int64 → Int32 → Int32 → Int32 → Option (MS × Int64))} (h : ZIc p W x u) (e_v1 : v1' = v1) (e_v4 : v4' = v4) (e_v5 : v5' = v5) (e_v7 : v7' = v7) (hG0 : ∀ (s : MS) (a0 b0 : Int32) (a1 b1 : Int32) (a2 b2 : Int64) (a3 b3 : Int32), ZIc p W x s → b0 = a0 → b1 = a1 → b2 = a2 → b3 = a3 → CZ p W x (G'.1 (Zp p W x s) b0 b1 b2 b3) (G.1 s a0 a1 a2 a3)) (hG1 : ∀ (s : MS) (a0 b0 : Int32) (a1 b1 : Int32) (a2 b2 : Int64) (a3 b3 : Int32) (a4 b4 : Int64) (a5 b5 : Int32) (a6 b6 : Int32) (a7 b7 : Int32), ZIc p W x s → b0 = a0 → b1 = a1 → b2 = a2 → b3 = a3 → b4 = a4 → b5 = a5 → b6 = a6 → b7 = a7 → CZ p W x (G'.2 (Zp p W x s) b0 b1 b2 b3 b4 b5 b6 b7) (G.2 s a0 a1 a2 a3 a4 a5 a6 a7)) : CZ p W x (fb_M_copy_42 N G' (Zp p W x u) v1' v4' v5' v7') (fb_M_copy_42 N G u v1 v4 v5 v7) := by
  subst e_v1
  subst e_v4
  subst e_v5
  subst e_v7
  unfold fb_M_copy_42
  repeat' (first | with_reducible rfl | with_reducible assumption | with_reducible refine cz_br ?_ ?_ ?_ | with_reducible refine cz_bnd ?_ (fun _ _ _ => ?_) | with_reducible refine cz_ck ?_ ?_ | with_reducible refine cz_some ?_ (by assumption) | with_reducible refine cz_A (by first | decide | exact And.right (by assumption)) ?_ (by assumption) (fun _ => ?_) | with_reducible refine cz_J (by first | decide | exact And.left (by assumption)) ?_ (by assumption) (fun _ => ?_) | with_reducible refine cz_I ?_ (by assumption) (fun _ => ?_) | with_reducible refine cz_L ?_ (by assumption) (fun _ => ?_) | with_reducible refine zc_fb_M_copy_128 (by assumption) ?_ ?_ ?_ ?_ ?_ ?_ ?_ hG0 hG1 | with_reducible refine zc_fm_M_sizeOf (by assumption) ?_ ?_ | with_reducible refine hG0 _ _ _ _ _ _ _ _ _ (by assumption) ?_ ?_ ?_ ?_ | with_reducible refine hG1 _ _ _ _ _ _ _ _ _ _ _ _ _ _ _ _ _ (by assumption) ?_ ?_ ?_ ?_ ?_ ?_ ?_ ?_ | with_reducible refine cz_ltv ?_ (fun _ => ?_) | (show _ = _; simp only [zr_1, zr_2, zr_A (k := 89) (by decide), zr_A (k := 142) (by decide), zr_J (k := 88) (by decide), zr_J (k := 141) (by decide)]) | rfl)
theorem zc_fb_M_copy_0 {v1 v1' : Int32} {v2 v2' : Int64} {v4 v4' : Int32} {G' G : (MS → Int32 → Int32 → Int64 → Int32 → Option (MS × Int64)) × (MS → Int32 → Int32 → Int64 → Int32 → Int64 → Int32 → Int32 → Int32 → Option (MS × Int64))} (h : ZIc p W x u) (e_v1 : v1' = v1) (e_v2 : v2' = v2) (e_v4 : v4' = v4) (hG0 : ∀ (s : MS) (a0 b0 : Int32) (a1 b1 : Int32) (a2 b2 : Int64) (a3 b3 : Int32), ZIc p W x s → b0 = a0 → b1 = a1 → b2 = a2 → b3 = a3 → CZ p W x (G'.1 (Zp p W x s) b0 b1 b2 b3) (G.1 s a0 a1 a2 a3)) (hG1 : ∀ (s : MS) (a0 b0 : Int32) (a1 b1 : Int32) (a2 b2 : Int64) (a3 b3 : Int32) (a4 b4 : Int64) (a5 b5 : Int32) (a6 b6 : Int32) (a7 b7 : Int32), ZIc p W x s → b0 = a0 → b1 = a1 → b2 = a2 → b3 = a3 → b4 = a4 → b5 = a5 → b6 = a6 → b7 = a7 → CZ p W x (G'.2 (Zp p W x s) b0 b1 b2 b3 b4 b5 b6 b7) (G.2 s a0 a1 a2 a3 a4 a5 a6 a7)) : CZ p W x (fb_M_copy_0 N G' (Zp p W x u) v1' v2' v4') (fb_M_copy_0 N G u v1 v2 v4) := by
  subst e_v1
  subst e_v2
  subst e_v4
  unfold fb_M_copy_0
  repeat' (first | with_reducible rfl | with_reducible assumption | with_reducible refine cz_br ?_ ?_ ?_ | with_reducible refine cz_bnd ?_ (fun _ _ _ => ?_) | with_reducible refine cz_ck ?_ ?_ | with_reducible refine cz_some ?_ (by assumption) | with_reducible refine cz_A (by first | decide | exact And.right (by assumption)) ?_ (by assumption) (fun _ => ?_) | with_reducible refine cz_J (by first | decide | exact And.left (by assumption)) ?_ (by assumption) (fun _ => ?_) | with_reducible refine cz_I ?_ (by assumption) (fun _ => ?_) | with_reducible refine cz_L ?_ (by assumption) (fun _ => ?_) | with_reducible refine zc_fm_M_inHeap (by assumption) ?_ | with_reducible refine hG0 _ _ _ _ _ _ _ _ _ (by assumption) ?_ ?_ ?_ ?_ | with_reducible refine hG1 _ _ _ _ _ _ _ _ _ _ _ _ _ _ _ _ _ (by assumption) ?_ ?_ ?_ ?_ ?_ ?_ ?_ ?_ | with_reducible refine cz_ltv ?_ (fun _ => ?_) | (show _ = _; simp only [zr_1, zr_2, zr_A (k := 89) (by decide), zr_A (k := 142) (by decide), zr_J (k := 141) (by decide)]) | rfl)
theorem zc_gg_M_copy : ∀ (n n' : Nat), n ≤ n' → (∀ (s : MS) (a0 b0 : Int32) (a1 b1 : Int32) (a2 b2 : Int64) (a3 b3 : Int32), ZIc p W x s → b0 = a0 → b1 = a1 → b2 = a2 → b3 = a3 → CZ p W x ((gg_M_copy N n).1 (Zp p W x s) b0 b1 b2 b3) ((gg_M_copy N n').1 s a0 a1 a2 a3)) ∧ (∀ (s : MS) (a0 b0 : Int32) (a1 b1 : Int32) (a2 b2 : Int64) (a3 b3 : Int32) (a4 b4 : Int64) (a5 b5 : Int32) (a6 b6 : Int32) (a7 b7 : Int32), ZIc p W x s → b0 = a0 → b1 = a1 → b2 = a2 → b3 = a3 → b4 = a4 → b5 = a5 → b6 = a6 → b7 = a7 → CZ p W x ((gg_M_copy N n).2 (Zp p W x s) b0 b1 b2 b3 b4 b5 b6 b7) ((gg_M_copy N n').2 s a0 a1 a2 a3 a4 a5 a6 a7)) := by
  intro n
  induction n with
  | zero => intro n' _; exact ⟨fun _ _ _ _ _ _ _ _ _ _ _ _ _ _ => cz_none, fun _ _ _ _ _ _ _ _ _ _ _ _ _ _ _ _ _ _ _ _ _ _ _ _ _ _ => cz_none⟩
  | succ n ih =>
    intro n' hn
    cases n' with
    | zero => omega
    | succ n' =>
    have ih' := ih n' (by omega)
    exact ⟨fun _ _ _ _ _ _ _ _ _ h e0 e1 e2 e3 => zc_fb_M_copy_42 (N := N) h e0 e1 e2 e3 ih'.1 ih'.2, fun _ _ _ _ _ _ _ _ _ _ _ _ _ _ _ _ _ h e0 e1 e2 e3 e4 e5 e6 e7 => zc_fb_M_copy_131 (N := N) h e0 e1 e2 e3 e4 e5 e6 e7 ih'.1 ih'.2⟩
theorem zc_fm_M_copy {v1 v1' : Int32} {v2 v2' : Int64} {v4 v4' : Int32} (h : ZIc p W x u) (e_v1 : v1' = v1) (e_v2 : v2' = v2) (e_v4 : v4' = v4) : CZ p W x (fm_M_copy N (Zp p W x u) v1' v2' v4') (fm_M_copy N u v1 v2 v4) := by
  subst e_v1
  subst e_v2
  subst e_v4
  unfold fm_M_copy
  exact zc_fb_M_copy_0 h rfl rfl rfl ((zc_gg_M_copy N N (Nat.le_refl _)).1) ((zc_gg_M_copy N N (Nat.le_refl _)).2)
theorem zc_fb_M_willEnd_68 {G' G : Unit} (h : ZIc p W x u)  : CZ p W x (fb_M_willEnd_68 N G' (Zp p W x u)) (fb_M_willEnd_68 N G u) := by
  unfold fb_M_willEnd_68
  repeat' (first | with_reducible rfl | with_reducible assumption | with_reducible refine cz_br ?_ ?_ ?_ | with_reducible refine cz_bnd ?_ (fun _ _ _ => ?_) | with_reducible refine cz_ck ?_ ?_ | with_reducible refine cz_some ?_ (by assumption) | with_reducible refine cz_A (by first | decide | exact And.right (by assumption)) ?_ (by assumption) (fun _ => ?_) | with_reducible refine cz_J (by first | decide | exact And.left (by assumption)) ?_ (by assumption) (fun _ => ?_) | with_reducible refine cz_I ?_ (by assumption) (fun _ => ?_) | with_reducible refine cz_L ?_ (by assumption) (fun _ => ?_) | with_reducible refine cz_ltv ?_ (fun _ => ?_) | (show _ = _; simp only [zr_1, zr_2]) | rfl)
theorem zc_fb_M_willEnd_0 {v1 v1' : Int32} {v2 v2' : Int32} {v3 v3' : Int32} {v4 v4' : Int64} {G' G : Unit} (h : ZIc p W x u) (e_v1 : v1' = v1) (e_v2 : v2' = v2) (e_v3 : v3' = v3) (e_v4 : v4' = v4)  : CZ p W x (fb_M_willEnd_0 N G' (Zp p W x u) v1' v2' v3' v4') (fb_M_willEnd_0 N G u v1 v2 v3 v4) := by
  subst e_v1
  subst e_v2
  subst e_v3
  subst e_v4
  unfold fb_M_willEnd_0
  repeat' (first | with_reducible rfl | with_reducible assumption | with_reducible refine cz_br ?_ ?_ ?_ | with_reducible refine cz_bnd ?_ (fun _ _ _ => ?_) | with_reducible refine cz_ck ?_ ?_ | with_reducible refine cz_some ?_ (by assumption) | with_reducible refine cz_A (by first | decide | exact And.right (by assumption)) ?_ (by assumption) (fun _ => ?_) | with_reducible refine cz_J (by first | decide | exact And.left (by assumption)) ?_ (by assumption) (fun _ => ?_) | with_reducible refine cz_I ?_ (by assumption) (fun _ => ?_) | with_reducible refine cz_L ?_ (by assumption) (fun _ => ?_) | with_reducible refine zc_fb_M_willEnd_68 (by assumption) | with_reducible refine cz_ltv ?_ (fun _ => ?_) | (show _ = _; simp only [zr_1, zr_2, zr_A (k := 109) (by decide), zr_A (k := 145) (by decide), zr_A (k := 146) (by decide), zr_A (k := 147) (by decide), zr_J (k := 148) (by decide)]) | rfl)
theorem zc_fm_M_willEnd {v1 v1' : Int32} {v2 v2' : Int32} {v3 v3' : Int32} {v4 v4' : Int64} (h : ZIc p W x u) (e_v1 : v1' = v1) (e_v2 : v2' = v2) (e_v3 : v3' = v3) (e_v4 : v4' = v4) : CZ p W x (fm_M_willEnd N (Zp p W x u) v1' v2' v3' v4') (fm_M_willEnd N u v1 v2 v3 v4) := by
  subst e_v1
  subst e_v2
  subst e_v3
  subst e_v4
  unfold fm_M_willEnd
  exact zc_fb_M_willEnd_0 h rfl rfl rfl rfl
theorem zc_fb_M_message_406 {v1 v1' : Int32} {v12 v12' : Int64} {G' G : Unit} (h : ZIc p W x u) (e_v1 : v1' = v1) (e_v12 : v12' = v12)  : CZ p W x (fb_M_message_406 N G' (Zp p W x u) v1' v12') (fb_M_message_406 N G u v1 v12) := by
  subst e_v1
  subst e_v12
  unfold fb_M_message_406
  repeat' (first | with_reducible rfl | with_reducible assumption | with_reducible refine cz_br ?_ ?_ ?_ | with_reducible refine cz_bnd ?_ (fun _ _ _ => ?_) | with_reducible refine cz_ck ?_ ?_ | with_reducible refine cz_some ?_ (by assumption) | with_reducible refine cz_A (by first | decide | exact And.right (by assumption)) ?_ (by assumption) (fun _ => ?_) | with_reducible refine cz_J (by first | decide | exact And.left (by assumption)) ?_ (by assumption) (fun _ => ?_) | with_reducible refine cz_I ?_ (by assumption) (fun _ => ?_) | with_reducible refine cz_L ?_ (by assumption) (fun _ => ?_) | with_reducible refine cz_ltv ?_ (fun _ => ?_) | (show _ = _; simp only [zr_1, zr_2, zr_A (k := 108) (by decide), zr_J (k := 107) (by decide)]) | rfl)
theorem zc_fb_M_message_378 {v1 v1' : Int32} {v12 v12' : Int64} {v14 v14' : Int32} {v15 v15' : Int64} {G' G : Unit} (h : ZIc p W x u) (e_v1 : v1' = v1) (e_v12 : v12' = v12) (e_v14 : v14' = v14) (e_v15 : v15' = v15)  : CZ p W x (fb_M_message_378 N G' (Zp p W x u) v1' v12' v14' v15') (fb_M_message_378 N G u v1 v12 v14 v15) := by
  subst e_v1
  subst e_v12
  subst e_v14
  subst e_v15
  unfold fb_M_message_378
  repeat' (first | with_reducible rfl | with_reducible assumption | with_reducible refine cz_br ?_ ?_ ?_ | with_reducible refine cz_bnd ?_ (fun _ _ _ => ?_) | with_reducible refine cz_ck ?_ ?_ | with_reducible refine cz_some ?_ (by assumption) | with_reducible refine cz_A (by first | decide | exact And.right (by assumption)) ?_ (by assumption) (fun _ => ?_) | with_reducible refine cz_J (by first | decide | exact And.left (by assumption)) ?_ (by assumption) (fun _ => ?_) | with_reducible refine cz_I ?_ (by assumption) (fun _ => ?_) | with_reducible refine cz_L ?_ (by assumption) (fun _ => ?_) | with_reducible refine zc_fb_M_message_406 (by assumption) ?_ ?_ | with_reducible refine cz_ltv ?_ (fun _ => ?_) | (show _ = _; simp only [zr_1, zr_2, zr_J (k := 88) (by decide)]) | rfl)
theorem zc_fb_M_message_328 {v1 v1' : Int32} {v6 v6' : Int32} {v10 v10' : Int64} {v12 v12' : Int64} {v14 v14' : Int32} {v17 v17' : Int32} {t0 : Nat} {t1 t1' : Int32} {t2 t2' : Int32} {t3 t3' : Int32} {G' G : Unit} (h : ZIc p W x u) (e_v1 : v1' = v1) (e_v6 : v6' = v6) (e_v10 : v10' = v10) (e_v12 : v12' = v12) (e_v14 : v14' = v14) (e_v17 : v17' = v17) (hn_t0 : t0 ≠ 91 ∧ t0 ≠ 92) (e_t1 : t1' = t1) (e_t2 : t2' = t2) (e_t3 : t3' = t3)  : CZ p W x (fb_M_message_328 N G' (Zp p W x u) v1' v6' v10' v12' v14' v17' t0 t1' t2' t3') (fb_M_message_328 N G u v1 v6 v10 v12 v14 v17 t0 t1 t2 t3) := by
  subst e_v1
  subst e_v6
  subst e_v10
  subst e_v12
  subst e_v14
  subst e_v17
  subst e_t1
  subst e_t2
  subst e_t3
  unfold fb_M_message_328
  repeat' (first | with_reducible rfl | with_reducible assumption | with_reducible refine cz_br ?_ ?_ ?_ | with_reducible refine cz_bnd ?_ (fun _ _ _ => ?_) | with_reducible refine cz_ck ?_ ?_ | with_reducible refine cz_some ?_ (by assumption) | with_reducible refine cz_A (by first | decide | exact And.right (by assumption)) ?_ (by assumption) (fun _ => ?_) | with_reducible refine cz_J (by first | decide | exact And.left (by assumption)) ?_ (by assumption) (fun _ => ?_) | with_reducible refine cz_I ?_ (by assumption) (fun _ => ?_) | with_reducible refine cz_L ?_ (by assumption) (fun _ => ?_) | with_reducible refine zc_fb_M_message_378 (by assumption) ?_ ?_ ?_ ?_ | with_reducible refine zc_fm_M_copy (by assumption) ?_ ?_ ?_ | with_reducible refine zc_fm_M_term (by assumption) ?_ ?_ | with_reducible refine cz_ltv ?_ (fun _ => ?_) | (show _ = _; simp only [zr_1, zr_2, zr_J (k := 88) (by decide), zr_A hn_t0.2, zr_J hn_t0.1]) | rfl)
theorem zc_fb_M_message_261 {v1 v1' : Int32} {v5 v5' : Int32} {v6 v6' : Int32} {v10 v10' : Int64} {v12 v12' : Int64} {v14 v14' : Int32} {G' G : Unit} (h : ZIc p W x u) (e_v1 : v1' = v1) (e_v5 : v5' = v5) (e_v6 : v6' = v6) (e_v10 : v10' = v10) (e_v12 : v12' = v12) (e_v14 : v14' = v14)  : CZ p W x (fb_M_message_261 N G' (Zp p W x u) v1' v5' v6' v10' v12' v14') (fb_M_message_261 N G u v1 v5 v6 v10 v12 v14) := by
  subst e_v1
  subst e_v5
  subst e_v6
  subst e_v10
  subst e_v12
  subst e_v14
  unfold fb_M_message_261
  repeat' (first | with_reducible rfl | with_reducible assumption | with_reducible refine cz_br ?_ ?_ ?_ | with_reducible refine cz_bnd ?_ (fun _ _ _ => ?_) | with_reducible refine cz_ck ?_ ?_ | with_reducible refine cz_some ?_ (by assumption) | with_reducible refine cz_A (by first | decide | exact And.right (by assumption)) ?_ (by assumption) (fun _ => ?_) | with_reducible refine cz_J (by first | decide | exact And.left (by assumption)) ?_ (by assumption) (fun _ => ?_) | with_reducible refine cz_I ?_ (by assumption) (fun _ => ?_) | with_reducible refine cz_L ?_ (by assumption) (fun _ => ?_) | with_reducible refine zc_fb_M_message_328 (by assumption) ?_ ?_ ?_ ?_ ?_ ?_ (by first | assumption | decide) ?_ ?_ ?_ | with_reducible refine zc_fb_M_message_378 (by assumption) ?_ ?_ ?_ ?_ | with_reducible refine zc_fm_M_copy (by assumption) ?_ ?_ ?_ | with_reducible refine cz_ltv ?_ (fun _ => ?_) | (show _ = _; simp only [zr_1, zr_2, zr_A (k := 89) (by decide), zr_J (k := 88) (by decide)]) | rfl)
theorem zc_fb_M_message_222 {v1 v1' : Int32} {v4 v4' : Int32} {v5 v5' : Int32} {v6 v6' : Int32} {v10 v10' : Int64} {v15 v15' : Int32} {v16 v16' : Int32} {G' G : Unit} (h : ZIc p W x u) (e_v1 : v1' = v1) (e_v4 : v4' = v4) (e_v5 : v5' = v5) (e_v6 : v6' = v6) (e_v10 : v10' = v10) (e_v15 : v15' = v15) (e_v16 : v16' = v16)  : CZ p W x (fb_M_message_222 N G' (Zp p W x u) v1' v4' v5' v6' v10' v15' v16') (fb_M_message_222 N G u v1 v4 v5 v6 v10 v15 v16) := by
  subst e_v1
  subst e_v4
  subst e_v5
  subst e_v6
  subst e_v10
  subst e_v15
  subst e_v16
  unfold fb_M_message_222
  repeat' (first | with_reducible rfl | with_reducible assumption | with_reducible refine cz_br ?_ ?_ ?_ | with_reducible refine cz_bnd ?_ (fun _ _ _ => ?_) | with_reducible refine cz_ck ?_ ?_ | with_reducible refine cz_some ?_ (by assumption) | with_reducible refine cz_A (by first | decide | exact And.right (by assumption)) ?_ (by assumption) (fun _ => ?_) | with_reducible refine cz_J (by first | decide | exact And.left (by assumption)) ?_ (by assumption) (fun _ => ?_) | with_reducible refine cz_I ?_ (by assumption) (fun _ => ?_) | with_reducible refine cz_L ?_ (by assumption) (fun _ => ?_) | with_reducible refine zc_fb_M_message_261 (by assumption) ?_ ?_ ?_ ?_ ?_ ?_ | with_reducible refine zc_fm_M_term (by assumption) ?_ ?_ | with_reducible refine cz_ltv ?_ (fun _ => ?_) | (show _ = _; simp only [zr_1, zr_2, zr_J (k := 88) (by decide)]) | rfl)
theorem zc_fb_M_message_193 {v1 v1' : Int32} {v2 v2' : Int32} {v3 v3' : Int32} {v4 v4' : Int32} {v5 v5' : Int32} {v6 v6' : Int32} {v10 v10' : Int64} {v15 v15' : Int32} {v16 v16' : Int32} {t0 : Nat} {t1 t1' : Int32} {t2 t2' : Int32} {t3 t3' : Int32} {G' G : Unit} (h : ZIc p W x u) (e_v1 : v1' = v1) (e_v2 : v2' = v2) (e_v3 : v3' = v3) (e_v4 : v4' = v4) (e_v5 : v5' = v5) (e_v6 : v6' = v6) (e_v10 : v10' = v10) (e_v15 : v15' = v15) (e_v16 : v16' = v16) (hn_t0 : t0 ≠ 91 ∧ t0 ≠ 92) (e_t1 : t1' = t1) (e_t2 : t2' = t2) (e_t3 : t3' = t3)  : CZ p W x (fb_M_message_193 N G' (Zp p W x u) v1' v2' v3' v4' v5' v6' v10' v15' v16' t0 t1' t2' t3') (fb_M_message_193 N G u v1 v2 v3 v4 v5 v6 v10 v15 v16 t0 t1 t2 t3) := by
  subst e_v1
  subst e_v2
  subst e_v3
  subst e_v4
  subst e_v5
  subst e_v6
  subst e_v10
  subst e_v15
  subst e_v16
  subst e_t1
  subst e_t2
  subst e_t3
  unfold fb_M_message_193
  repeat' (first | with_reducible rfl | with_reducible assumption | with_reducible refine cz_br ?_ ?_ ?_ | with_reducible refine cz_bnd ?_ (fun _ _ _ => ?_) | with_reducible refine cz_ck ?_ ?_ | with_reducible refine cz_some ?_ (by assumption) | with_reducible refine cz_A (by first | decide | exact And.right (by assumption)) ?_ (by assumption) (fun _ => ?_) | with_reducible refine cz_J (by first | decide | exact And.left (by assumption)) ?_ (by assumption) (fun _ => ?_) | with_reducible refine cz_I ?_ (by assumption) (fun _ => ?_) | with_reducible refine cz_L ?_ (by assumption) (fun _ => ?_) | with_reducible refine zc_fb_M_message_222 (by assumption) ?_ ?_ ?_ ?_ ?_ ?_ ?_ | with_reducible refine zc_fm_M_term (by assumption) ?_ ?_ | with_reducible refine cz_ltv ?_ (fun _ => ?_) | (show _ = _; simp only [zr_1, zr_2, zr_J (k := 88) (by decide), zr_A hn_t0.2, zr_J hn_t0.1]) | rfl)
theorem zc_fb_M_message_136 {v1 v1' : Int32} {v2 v2' : Int32} {v3 v3' : Int32} {v4 v4' : Int32} {v5 v5' : Int32} {v6 v6' : Int32} {v10 v10' : Int64} {v15 v15' : Int32} {t0 t0' : Int32} {G' G : Unit} (h : ZIc p W x u) (e_v1 : v1' = v1) (e_v2 : v2' = v2) (e_v3 : v3' = v3) (e_v4 : v4' = v4) (e_v5 : v5' = v5) (e_v6 : v6' = v6) (e_v10 : v10' = v10) (e_v15 : v15' = v15) (e_t0 : t0' = t0)  : CZ p W x (fb_M_message_136 N G' (Zp p W x u) v1' v2' v3' v4' v5' v6' v10' v15' t0') (fb_M_message_136 N G u v1 v2 v3 v4 v5 v6 v10 v15 t0) := by
  subst e_v1
  subst e_v2
  subst e_v3
  subst e_v4
  subst e_v5
  subst e_v6
  subst e_v10
  subst e_v15
  subst e_t0
  unfold fb_M_message_136
  repeat' (first | with_reducible rfl | with_reducible assumption | with_reducible refine cz_br ?_ ?_ ?_ | with_reducible refine cz_bnd ?_ (fun _ _ _ => ?_) | with_reducible refine cz_ck ?_ ?_ | with_reducible refine cz_some ?_ (by assumption) | with_reducible refine cz_A (by first | decide | exact And.right (by assumption)) ?_ (by assumption) (fun _ => ?_) | with_reducible refine cz_J (by first | decide | exact And.left (by assumption)) ?_ (by assumption) (fun _ => ?_) | with_reducible refine cz_I ?_ (by assumption) (fun _ => ?_) | with_reducible refine cz_L ?_ (by assumption) (fun _ => ?_) | with_reducible refine zc_fb_M_message_193 (by assumption) ?_ ?_ ?_ ?_ ?_ ?_ ?_ ?_ ?_ (by first | assumption | decide) ?_ ?_ ?_ | with_reducible refine cz_ltv ?_ (fun _ => ?_) | (show _ = _; simp only [zr_1, zr_2, zr_A (k := 89) (by decide), zr_J (k := 88) (by decide)]) | rfl)
theorem zc_fb_M_message_50 {v1 v1' : Int32} {v2 v2' : Int32} {v3 v3' : Int32} {v4 v4' : Int32} {v5 v5' : Int32} {v6 v6' : Int32} {v7 v7' : Int64} {t0 t0' : Int32} {t1 t1' : Int32} {G' G : Unit} (h : ZIc p W x u) (e_v1 : v1' = v1) (e_v2 : v2' = v2) (e_v3 : v3' = v3) (e_v4 : v4' = v4) (e_v5 : v5' = v5) (e_v6 : v6' = v6) (e_v7 : v7' = v7) (e_t0 : t0' = t0) (e_t1 : t1' = t1)  : CZ p W x (fb_M_message_50 N G' (Zp p W x u) v1' v2' v3' v4' v5' v6' v7' t0' t1') (fb_M_message_50 N G u v1 v2 v3 v4 v5 v6 v7 t0 t1) := by
  subst e_v1
  subst e_v2
  subst e_v3
  subst e_v4
  subst e_v5
  subst e_v6
  subst e_v7
  subst e_t0
  subst e_t1
  unfold fb_M_message_50
  repeat' (first | with_reducible rfl | with_reducible assumption | with_reducible refine cz_br ?_ ?_ ?_ | with_reducible refine cz_bnd ?_ (fun _ _ _ => ?_) | with_reducible refine cz_ck ?_ ?_ | with_reducible refine cz_some ?_ (by assumption) | with_reducible refine cz_A (by first | decide | exact And.right (by assumption)) ?_ (by assumption) (fun _ => ?_) | with_reducible refine cz_J (by first | decide | exact And.left (by assumption)) ?_ (by assumption) (fun _ => ?_) | with_reducible refine cz_I ?_ (by assumption) (fun _ => ?_) | with_reducible refine cz_L ?_ (by assumption) (fun _ => ?_) | with_reducible refine zc_fb_M_message_136 (by assumption) ?_ ?_ ?_ ?_ ?_ ?_ ?_ ?_ ?_ | with_reducible refine zc_fb_M_message_261 (by assumption) ?_ ?_ ?_ ?_ ?_ ?_ | with_reducible refine zc_fm_M_willEnd (by assumption) ?_ ?_ ?_ ?_ | with_reducible refine zc_fm_M_copySize (by assumption) ?_ ?_ | with_reducible refine zc_fm_M_wants (by assumption) ?_ ?_ | with_reducible refine zc_fm_M_hand (by assumption) ?_ ?_ | with_reducible refine zc_fm_M_term (by assumption) ?_ ?_ | with_reducible refine zc_fm_M_handNone (by assumption) | with_reducible refine cz_ltv ?_ (fun _ => ?_) | (show _ = _; simp only [zr_1, zr_2, zr_A (k := 89) (by decide)]) | rfl)
theorem zc_fb_M_message_40 {v1 v1' : Int32} {v2 v2' : Int32} {v3 v3' : Int32} {v4 v4' : Int32} {v5 v5' : Int32} {v6 v6' : Int32} {v7 v7' : Int64} {t0 t0' : Int32} {G' G : Unit} (h : ZIc p W x u) (e_v1 : v1' = v1) (e_v2 : v2' = v2) (e_v3 : v3' = v3) (e_v4 : v4' = v4) (e_v5 : v5' = v5) (e_v6 : v6' = v6) (e_v7 : v7' = v7) (e_t0 : t0' = t0)  : CZ p W x (fb_M_message_40 N G' (Zp p W x u) v1' v2' v3' v4' v5' v6' v7' t0') (fb_M_message_40 N G u v1 v2 v3 v4 v5 v6 v7 t0) := by
  subst e_v1
  subst e_v2
  subst e_v3
  subst e_v4
  subst e_v5
  subst e_v6
  subst e_v7
  subst e_t0
  unfold fb_M_message_40
  repeat' (first | with_reducible rfl | with_reducible assumption | with_reducible refine cz_br ?_ ?_ ?_ | with_reducible refine cz_bnd ?_ (fun _ _ _ => ?_) | with_reducible refine cz_ck ?_ ?_ | with_reducible refine cz_some ?_ (by assumption) | with_reducible refine cz_A (by first | decide | exact And.right (by assumption)) ?_ (by assumption) (fun _ => ?_) | with_reducible refine cz_J (by first | decide | exact And.left (by assumption)) ?_ (by assumption) (fun _ => ?_) | with_reducible refine cz_I ?_ (by assumption) (fun _ => ?_) | with_reducible refine cz_L ?_ (by assumption) (fun _ => ?_) | with_reducible refine zc_fb_M_message_50 (by assumption) ?_ ?_ ?_ ?_ ?_ ?_ ?_ ?_ ?_ | with_reducible refine cz_ltv ?_ (fun _ => ?_) | (show _ = _; simp only [zr_1, zr_2]) | rfl)
theorem zc_fb_M_message_21 {G' G : Unit} (h : ZIc p W x u)  : CZ p W x (fb_M_message_21 N G' (Zp p W x u)) (fb_M_message_21 N G u) := by
  unfold fb_M_message_21
  repeat' (first | with_reducible rfl | with_reducible assumption | with_reducible refine cz_br ?_ ?_ ?_ | with_reducible refine cz_bnd ?_ (fun _ _ _ => ?_) | with_reducible refine cz_ck ?_ ?_ | with_reducible refine cz_some ?_ (by assumption) | with_reducible refine cz_A (by first | decide | exact And.right (by assumption)) ?_ (by assumption) (fun _ => ?_) | with_reducible refine cz_J (by first | decide | exact And.left (by assumption)) ?_ (by assumption) (fun _ => ?_) | with_reducible refine cz_I ?_ (by assumption) (fun _ => ?_) | with_reducible refine cz_L ?_ (by assumption) (fun _ => ?_) | with_reducible refine cz_ltv ?_ (fun _ => ?_) | (show _ = _; simp only [zr_1, zr_2]) | rfl)
theorem zc_fb_M_message_0 {v1 v1' : Int32} {v2 v2' : Int32} {v3 v3' : Int32} {v4 v4' : Int32} {v5 v5' : Int32} {v6 v6' : Int32} {v7 v7' : Int64} {G' G : Unit} (h : ZIc p W x u) (e_v1 : v1' = v1) (e_v2 : v2' = v2) (e_v3 : v3' = v3) (e_v4 : v4' = v4) (e_v5 : v5' = v5) (e_v6 : v6' = v6) (e_v7 : v7' = v7)  : CZ p W x (fb_M_message_0 N G' (Zp p W x u) v1' v2' v3' v4' v5' v6' v7') (fb_M_message_0 N G u v1 v2 v3 v4 v5 v6 v7) := by
  subst e_v1
  subst e_v2
  subst e_v3
  subst e_v4
  subst e_v5
  subst e_v6
  subst e_v7
  unfold fb_M_message_0
  repeat' (first | with_reducible rfl | with_reducible assumption | with_reducible refine cz_br ?_ ?_ ?_ | with_reducible refine cz_bnd ?_ (fun _ _ _ => ?_) | with_reducible refine cz_ck ?_ ?_ | with_reducible refine cz_some ?_ (by assumption) | with_reducible refine cz_A (by first | decide | exact And.right (by assumption)) ?_ (by assumption) (fun _ => ?_) | with_reducible refine cz_J (by first | decide | exact And.left (by assumption)) ?_ (by assumption) (fun _ => ?_) | with_reducible refine cz_I ?_ (by assumption) (fun _ => ?_) | with_reducible refine cz_L ?_ (by assumption) (fun _ => ?_) | with_reducible refine zc_fb_M_message_40 (by assumption) ?_ ?_ ?_ ?_ ?_ ?_ ?_ ?_ | with_reducible refine zc_fb_M_message_21 (by assumption) | with_reducible refine cz_ltv ?_ (fun _ => ?_) | (show _ = _; simp only [zr_1, zr_2, zr_A (k := 108) (by decide), zr_A (k := 109) (by decide)]) | rfl)
theorem zc_fm_M_message {v1 v1' : Int32} {v2 v2' : Int32} {v3 v3' : Int32} {v4 v4' : Int32} {v5 v5' : Int32} {v6 v6' : Int32} {v7 v7' : Int64} (h : ZIc p W x u) (e_v1 : v1' = v1) (e_v2 : v2' = v2) (e_v3 : v3' = v3) (e_v4 : v4' = v4) (e_v5 : v5' = v5) (e_v6 : v6' = v6) (e_v7 : v7' = v7) : CZ p W x (fm_M_message N (Zp p W x u) v1' v2' v3' v4' v5' v6' v7') (fm_M_message N u v1 v2 v3 v4 v5 v6 v7) := by
  subst e_v1
  subst e_v2
  subst e_v3
  subst e_v4
  subst e_v5
  subst e_v6
  subst e_v7
  unfold fm_M_message
  exact zc_fb_M_message_0 h rfl rfl rfl rfl rfl rfl rfl
theorem zc_fb_M_signal_61 {G' G : Unit} (h : ZIc p W x u)  : CZ p W x (fb_M_signal_61 N G' (Zp p W x u)) (fb_M_signal_61 N G u) := by
  unfold fb_M_signal_61
  repeat' (first | with_reducible rfl | with_reducible assumption | with_reducible refine cz_br ?_ ?_ ?_ | with_reducible refine cz_bnd ?_ (fun _ _ _ => ?_) | with_reducible refine cz_ck ?_ ?_ | with_reducible refine cz_some ?_ (by assumption) | with_reducible refine cz_A (by first | decide | exact And.right (by assumption)) ?_ (by assumption) (fun _ => ?_) | with_reducible refine cz_J (by first | decide | exact And.left (by assumption)) ?_ (by assumption) (fun _ => ?_) | with_reducible refine cz_I ?_ (by assumption) (fun _ => ?_) | with_reducible refine cz_L ?_ (by assumption) (fun _ => ?_) | with_reducible refine cz_ltv ?_ (fun _ => ?_) | (show _ = _; simp only [zr_1, zr_2]) | rfl)
theorem zc_fb_M_signal_51 {v1 v1' : Int32} {v3 v3' : Int32} {v4 v4' : Int32} {v5 v5' : Int64} {G' G : Unit} (h : ZIc p W x u) (e_v1 : v1' = v1) (e_v3 : v3' = v3) (e_v4 : v4' = v4) (e_v5 : v5' = v5)  : CZ p W x (fb_M_signal_51 N G' (Zp p W x u) v1' v3' v4' v5') (fb_M_signal_51 N G u v1 v3 v4 v5) := by
  subst e_v1
  subst e_v3
  subst e_v4
  subst e_v5
  unfold fb_M_signal_51
  repeat' (first | with_reducible rfl | with_reducible assumption | with_reducible refine cz_br ?_ ?_ ?_ | with_reducible refine cz_bnd ?_ (fun _ _ _ => ?_) | with_reducible refine cz_ck ?_ ?_ | with_reducible refine cz_some ?_ (by assumption) | with_reducible refine cz_A (by first | decide | exact And.right (by assumption)) ?_ (by assumption) (fun _ => ?_) | with_reducible refine cz_J (by first | decide | exact And.left (by assumption)) ?_ (by assumption) (fun _ => ?_) | with_reducible refine cz_I ?_ (by assumption) (fun _ => ?_) | with_reducible refine cz_L ?_ (by assumption) (fun _ => ?_) | with_reducible refine zc_fm_M_willEnd (by assumption) ?_ ?_ ?_ ?_ | with_reducible refine zc_fb_M_signal_61 (by assumption) | with_reducible refine cz_ltv ?_ (fun _ => ?_) | (show _ = _; simp only [zr_1, zr_2]) | rfl)
theorem zc_fb_M_signal_0 {v1 v1' : Int32} {v2 v2' : Int32} {v3 v3' : Int32} {v4 v4' : Int32} {v5 v5' : Int64} {G' G : Unit} (h : ZIc p W x u) (e_v1 : v1' = v1) (e_v2 : v2' = v2) (e_v3 : v3' = v3) (e_v4 : v4' = v4) (e_v5 : v5' = v5)  : CZ p W x (fb_M_signal_0 N G' (Zp p W x u) v1' v2' v3' v4' v5') (fb_M_signal_0 N G u v1 v2 v3 v4 v5) := by
  subst e_v1
  subst e_v2
  subst e_v3
  subst e_v4
  subst e_v5
  unfold fb_M_signal_0
  repeat' (first | with_reducible rfl | with_reducible assumption | with_reducible refine cz_br ?_ ?_ ?_ | with_reducible refine cz_bnd ?_ (fun _ _ _ => ?_) | with_reducible refine cz_ck ?_ ?_ | with_reducible refine cz_some ?_ (by assumption) | with_reducible refine cz_A (by first | decide | exact And.right (by assumption)) ?_ (by assumption) (fun _ => ?_) | with_reducible refine cz_J (by first | decide | exact And.left (by assumption)) ?_ (by assumption) (fun _ => ?_) | with_reducible refine cz_I ?_ (by assumption) (fun _ => ?_) | with_reducible refine cz_L ?_ (by assumption) (fun _ => ?_) | with_reducible refine zc_fm_M_message (by assumption) ?_ ?_ ?_ ?_ ?_ ?_ ?_ | with_reducible refine zc_fb_M_signal_51 (by assumption) ?_ ?_ ?_ ?_ | with_reducible refine zc_fm_M_term (by assumption) ?_ ?_ | with_reducible refine zc_fb_M_signal_61 (by assumption) | with_reducible refine cz_ltv ?_ (fun _ => ?_) | (show _ = _; simp only [zr_1, zr_2, zr_A (k := 109) (by decide), zr_A (k := 112) (by decide)]) | rfl)
theorem zc_fm_M_signal {v1 v1' : Int32} {v2 v2' : Int32} {v3 v3' : Int32} {v4 v4' : Int32} {v5 v5' : Int64} (h : ZIc p W x u) (e_v1 : v1' = v1) (e_v2 : v2' = v2) (e_v3 : v3' = v3) (e_v4 : v4' = v4) (e_v5 : v5' = v5) : CZ p W x (fm_M_signal N (Zp p W x u) v1' v2' v3' v4' v5') (fm_M_signal N u v1 v2 v3 v4 v5) := by
  subst e_v1
  subst e_v2
  subst e_v3
  subst e_v4
  subst e_v5
  unfold fm_M_signal
  exact zc_fb_M_signal_0 h rfl rfl rfl rfl rfl
theorem zc_fb_M_exitRun_111 {G' G : Unit} (h : ZIc p W x u)  : CZ p W x (fb_M_exitRun_111 N G' (Zp p W x u)) (fb_M_exitRun_111 N G u) := by
  unfold fb_M_exitRun_111
  repeat' (first | with_reducible rfl | with_reducible assumption | with_reducible refine cz_br ?_ ?_ ?_ | with_reducible refine cz_bnd ?_ (fun _ _ _ => ?_) | with_reducible refine cz_ck ?_ ?_ | with_reducible refine cz_some ?_ (by assumption) | with_reducible refine cz_A (by first | decide | exact And.right (by assumption)) ?_ (by assumption) (fun _ => ?_) | with_reducible refine cz_J (by first | decide | exact And.left (by assumption)) ?_ (by assumption) (fun _ => ?_) | with_reducible refine cz_I ?_ (by assumption) (fun _ => ?_) | with_reducible refine cz_L ?_ (by assumption) (fun _ => ?_) | with_reducible refine cz_ltv ?_ (fun _ => ?_) | (show _ = _; simp only [zr_1, zr_2]) | rfl)
theorem zc_fb_M_exitRun_84 {v1 v1' : Int32} {v2 v2' : Int64} {G' G : Unit} (h : ZIc p W x u) (e_v1 : v1' = v1) (e_v2 : v2' = v2)  : CZ p W x (fb_M_exitRun_84 N G' (Zp p W x u) v1' v2') (fb_M_exitRun_84 N G u v1 v2) := by
  subst e_v1
  subst e_v2
  unfold fb_M_exitRun_84
  repeat' (first | with_reducible rfl | with_reducible assumption | with_reducible refine cz_br ?_ ?_ ?_ | with_reducible refine cz_bnd ?_ (fun _ _ _ => ?_) | with_reducible refine cz_ck ?_ ?_ | with_reducible refine cz_some ?_ (by assumption) | with_reducible refine cz_A (by first | decide | exact And.right (by assumption)) ?_ (by assumption) (fun _ => ?_) | with_reducible refine cz_J (by first | decide | exact And.left (by assumption)) ?_ (by assumption) (fun _ => ?_) | with_reducible refine cz_I ?_ (by assumption) (fun _ => ?_) | with_reducible refine cz_L ?_ (by assumption) (fun _ => ?_) | with_reducible refine zc_fm_M_willEnd (by assumption) ?_ ?_ ?_ ?_ | with_reducible refine zc_fm_M_copy (by assumption) ?_ ?_ ?_ | with_reducible refine zc_fb_M_exitRun_111 (by assumption) | with_reducible refine cz_ltv ?_ (fun _ => ?_) | (show _ = _; simp only [zr_1, zr_2, zr_A (k := 89) (by decide)]) | rfl)
theorem zc_fb_M_exitRun_0 {v1 v1' : Int32} {v2 v2' : Int64} {G' G : Unit} (h : ZIc p W x u) (e_v1 : v1' = v1) (e_v2 : v2' = v2)  : CZ p W x (fb_M_exitRun_0 N G' (Zp p W x u) v1' v2') (fb_M_exitRun_0 N G u v1 v2) := by
  subst e_v1
  subst e_v2
  unfold fb_M_exitRun_0
  repeat' (first | with_reducible rfl | with_reducible assumption | with_reducible refine cz_br ?_ ?_ ?_ | with_reducible refine cz_bnd ?_ (fun _ _ _ => ?_) | with_reducible refine cz_ck ?_ ?_ | with_reducible refine cz_some ?_ (by assumption) | with_reducible refine cz_A (by first | decide | exact And.right (by assumption)) ?_ (by assumption) (fun _ => ?_) | with_reducible refine cz_J (by first | decide | exact And.left (by assumption)) ?_ (by assumption) (fun _ => ?_) | with_reducible refine cz_I ?_ (by assumption) (fun _ => ?_) | with_reducible refine cz_L ?_ (by assumption) (fun _ => ?_) | with_reducible refine zc_fm_M_message (by assumption) ?_ ?_ ?_ ?_ ?_ ?_ ?_ | with_reducible refine zc_fm_M_willEnd (by assumption) ?_ ?_ ?_ ?_ | with_reducible refine zc_fb_M_exitRun_84 (by assumption) ?_ ?_ | with_reducible refine zc_fb_M_exitRun_111 (by assumption) | with_reducible refine zc_fm_M_term (by assumption) ?_ ?_ | with_reducible refine cz_ltv ?_ (fun _ => ?_) | (show _ = _; simp only [zr_1, zr_2, zr_A (k := 109) (by decide), zr_A (k := 112) (by decide)]) | rfl)
theorem zc_fm_M_exitRun {v1 v1' : Int32} {v2 v2' : Int64} (h : ZIc p W x u) (e_v1 : v1' = v1) (e_v2 : v2' = v2) : CZ p W x (fm_M_exitRun N (Zp p W x u) v1' v2') (fm_M_exitRun N u v1 v2) := by
  subst e_v1
  subst e_v2
  unfold fm_M_exitRun
  exact zc_fb_M_exitRun_0 h rfl rfl
end
