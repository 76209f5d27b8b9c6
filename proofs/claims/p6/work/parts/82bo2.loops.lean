set_option maxRecDepth 100000
def HBh (N : Nat) (m0 w0 : MS) (K : Nat → Nat) (T : Nat) (nm Nk : Nat → Nat) (d : Nat) : Prop := ∀ D, EXS N m0 w0 K T nm Nk 0 NC1 (fun m => (hrc_Pa_matched N D).2.2.2.2.2.2.2.2.2.2.2.2.2.2.1 m 0) ((rc_M_behind N d).1)
def HSi (N : Nat) (m0 w0 : MS) (K : Nat → Nat) (T : Nat) (nm Nk : Nat → Nat) (d : Nat) : Prop := ∀ D, EXS N m0 w0 K T nm Nk 1 NC1 (fun m => bTm ((hrc_Pa_matched N D).2.2.2.2.2.2.2.2.2.2.2.2.2.1 m) (fun u r => (hrc_Pa_matched N D).1 u r)) ((rc_M_behind N d).2.2.2.2.2.2.2.2.2.2.2.2.1)
section
variable {α : Type} {R : MS → α → MS → Int32 → Prop} {A : Option (MS × α)} {m0 w0 m w v u m2 m3 w2 x y z : MS} {K nm Nk W W2 WA WB : Nat → Nat} {T p n N q X Y X1 X2 XA n2 lo p2 p4 ν a b L L' k d o M : Nat} {sc sc1 sc2 sc3 sc4 sc5 t t2 t3 t4 t5 : SCT} {e e2 e3 e4 e5 : List Nat × List Nat × Nat} {gd Rf Zf : Bool} {BC : MS → Prop} {v1 v2 : Int32} {S : SG_M_behind} {NC : Nat → Prop}
theorem pp_map {f : MS → MS} {B : Option (MS × Int32)} {F : MS → Int32 → Option (MS × Int32)} (hF : ∀ u r, F u r = some (f u, r)) (h : PP (fun m z u r => R m z (f u) r) A B) : PP R A (bnd B F) := by
  intro m z w r e1 e2
  cases B with
  | none => cases e2
  | some B =>
    obtain ⟨w', r'⟩ := B
    have e2 : F w' r' = some (w, r) := e2
    rw [hF] at e2
    injection e2 with e2
    injection e2 with a1 a2
    rw [← a1, ← a2]
    exact h m z w' r' e1 rfl
theorem s97 {G : Unit} {r : Int32} : fb_M_simple_97 N S G u r = some (fgt u, r) := rfl
theorem mc1 (h65 : y.1 65 = I (L : Nat)) (hL : L ≤ 26) (k : ∀ (M : Nat) (s : MS), s.1 = y.1 → (∀ k, k ≠ 78 → s.2.2.1 k = y.2.2.1 k) → (∀ j, j < L + 1 → s.2.2.1 78 j = y.2.2.1 63 j) → PP R A (bnd (fm_M_takeBack N s) (fun u12 _ => (gg_M_matched N S M).2 u12 v1 v2 0))) : ∀ (M i : Nat) (s : MS), i ≤ L + 1 → s.1 = y.1 → (∀ k, k ≠ 78 → s.2.2.1 k = y.2.2.1 k) → (∀ j, j < i → s.2.2.1 78 j = y.2.2.1 63 j) → PP R A ((gg_M_matched N S M).1 s v1 v2 (I (i : Nat)))
  | 0, _, _, _, _, _, _ => pp_nr
  | M + 1, i, s, hi, e1, e2, e3 => by
    show PP R A (fb_M_matched_75 N S (gg_M_matched N S M) s v1 v2 (I (i : Nat)))
    unfold fb_M_matched_75
    rw [e1, h65, decide_eq_decide.mpr (I_lt (x := (L : Nat)) (y := (i : Nat)) (by omega) (by omega) (by omega) (by omega))]
    by_cases z : L < i
    · rw [decide_eq_true (by omega), br_tq]
      exact k M s e1 e2 (fun j hj => e3 j (by omega))
    · rw [decide_eq_false (by omega), br_fq, tnI (n := i) rfl (by omega), i_suc]
      refine r_ck (fun _ => r_ck (fun _ => r_lt ?_))
      refine mc1 h65 hL k M (i + 1) _ (by omega) e1 (fun k hk => ?_) (fun j hj => ?_)
      · rw [upA_no hk]; exact e2 k hk
      · rw [upA_at]
        by_cases y : j = i
        · subst y; rw [upd_at, e2 63 (by decide)]
        · rw [upd_no y]; exact e3 j (by omega)
theorem mc2 (h65 : y.1 65 = I (L : Nat)) (hL : L ≤ 26) (k : ∀ (M : Nat) (s : MS), s.1 = y.1 → (∀ k, k ≠ 63 → s.2.2.1 k = y.2.2.1 k) → (∀ j, j < L + 1 → s.2.2.1 63 j = y.2.2.1 78 j) → PP R A (br (decide (s.1 73 = 0)) (fb_M_matched_154 N S (gg_M_matched N S M) s v1 v2) (bnd (fm_M_rule N s 7 v2) (fun u10 _ => fb_M_matched_154 N S (gg_M_matched N S M) u10 v1 v2)))) : ∀ (M i : Nat) (s : MS), i ≤ L + 1 → s.1 = y.1 → (∀ k, k ≠ 63 → s.2.2.1 k = y.2.2.1 k) → (∀ j, j < i → s.2.2.1 63 j = y.2.2.1 78 j) → PP R A ((gg_M_matched N S M).2 s v1 v2 (I (i : Nat)))
  | 0, _, _, _, _, _, _ => pp_nr
  | M + 1, i, s, hi, e1, e2, e3 => by
    show PP R A (fb_M_matched_111 N S (gg_M_matched N S M) s v1 v2 (I (i : Nat)))
    unfold fb_M_matched_111
    have e65 : s.1 65 = I (L : Nat) := by rw [e1]; exact h65
    rw [e65, decide_eq_decide.mpr (I_lt (x := (L : Nat)) (y := (i : Nat)) (by omega) (by omega) (by omega) (by omega))]
    by_cases z : L < i
    · rw [decide_eq_true (by omega), br_tq]
      exact k M s e1 e2 (fun j hj => e3 j (by omega))
    · rw [decide_eq_false (by omega), br_fq, tnI (n := i) rfl (by omega), i_suc]
      refine r_ck (fun _ => r_ck (fun _ => r_lt ?_))
      refine mc2 h65 hL k M (i + 1) _ (by omega) e1 (fun k hk => ?_) (fun j hj => ?_)
      · rw [upA_no hk]; exact e2 k hk
      · rw [upA_at]
        by_cases y : j = i
        · subst y; rw [upd_at, e2 78 (by decide)]
        · rw [upd_no y]; exact e3 j (by omega)
theorem mat_tb (hR : RNs w (e :: t)) (md : MID w u a b (t.length + 1)) : PK (fun x (_ : Unit) => TBK w u x (t.length + 1) ∧ MID w x a b (t.length + 1)) (fm_M_takeBack N u) := by
  have hl : 1 ≤ t.length + 1 ∧ t.length + 1 ≤ 27 := hR.2.1
  refine pk_mo (tb_p (w := w) (L := t.length) (a := a) (b := b) ?_ (by omega) md.1.2.1 md.1.1.2.2.1 md.1.2.2 (by have := md.1.1.2.2.2; omega) md.2.2.2.2.2.2) (fun x _ h => ⟨h, MID_tb md hl.2 h⟩)
  rw [md.2.1 65 (by decide), hR.1]
  rfl
def p1s (x : MS) (p : Nat) : MS := upI (upI x 69 (I (p : Nat))) 70 (x.1 70 - 1)
theorem p1s_i (h : k ≠ 69) (h2 : k ≠ 70) : (p1s x p).1 k = x.1 k := by
  unfold p1s
  rw [upI_ne h2, upI_ne h]
theorem p1s_w (c : CTZ m0 w0 K T nm Nk) (hk : Ktc w0 x) (hp : p ≤ T) : WP (p1s x p) K T p := by
  refine ⟨⟨c.2.1.1, fun j hj => ?_, fun j hj => ?_⟩, ?_, hp⟩
  · show x.2.2.1 6 j = _
    rw [hk.2 6 (by decide)]; exact c.2.1.2.1 j hj
  · show 5 ≤ K j → x.2.2.1 7 j = _
    rw [hk.2 7 (by decide)]; exact c.2.1.2.2 j hj
  · unfold p1s
    rw [upI_ne (by decide), upI_at]
theorem p1s_k (hk : Ktc w0 x) : Ktc w0 (p1s x p) := Kt_I (Kt_I hk (by decide)) (by decide)
theorem p1s_70 (h : x.1 70 = I ((o + 1 : Nat) : Int)) : (p1s x p).1 70 = I (o : Nat) := by
  unfold p1s
  rw [upI_at, h]
  exact (I_mn (a := o + 1) (c := 1) (by omega) rfl).trans (by congr 2)
theorem p1s_r (h : RNs x sc) : RNs (p1s x p) sc := RNs_e h (p1s_i (by decide) (by decide)) (fun _ _ _ => rfl)
theorem mat_55 {G} : PK (fun w2 (_ : Int32) => FLW w2) (fb_M_matched_55 N S G u v2) := by
  unfold fb_M_matched_55
  exact pk_lt (pk_lt (pk_bnd (fun v r z => pk_some (wrong_s (u0 := upI (upI u 67 0) 69 v2) (by decide) v r z))))
theorem mat_no (c : CTZ m0 w0 K T nm Nk) (hw : RLP m0 w0 T p m w) (hR : RNs w (e :: t)) (h70 : w.1 70 = I ((o + 1 : Nat) : Int)) (md : MID w u a b (t.length + 1)) (u67 : u.1 67 = 0) (u70 : u.1 70 = w.1 70) (u69 : u.1 69 = I (q : Nat)) (hq : q ≤ T) (hu : RNs u sc2) (hx : SCX (e :: t) sc2 X) (hX : X ≤ 1400) (hd : HDs Nk K W p q (e :: t) sc2) (nq : ¬ NC (K q)) (hp : ∀ (d : Nat) (w : MS) (sc : SCT) (o' : Nat), WP w K T p → Ktc w0 w → w.1 67 = 0 → w.1 70 = I (o' : Nat) → o' ≤ o → RNs w sc → PK (fun w2 (_ : Int32) => FLW w2 ∨ (w2.1 67 = 0 ∧ ∃ q, WP w2 K T q ∧ NC (K q))) ((rc_M_rowPattern N d).2 w 0)) : PK (fun w2 (_ : Int32) => FLW w2) (fm_M_matched N S u (I (p : Nat))) := by
  show PK _ (fb_M_matched_0 N S (gg_M_matched N S N) u (I (p : Nat)))
  unfold fb_M_matched_0
  refine pk_bnd (pk_mo (mat_tb hR md) (fun x _ h => ?_))
  obtain ⟨h1, h2⟩ := h
  have rx := RNs_tb hR hu hx hX hd h1 (md.2.1 65 (by decide))
  have kx := MID_kt h2 hw.2.1
  have x70 : x.1 70 = I ((o + 1 : Nat) : Int) := by rw [h1.2.1 70 (by decide), u70]; exact h70
  have x67 : x.1 67 = 0 := by rw [h1.2.1 67 (by decide)]; exact u67
  refine pk_lt (pk_lt (pk_bnd (pk_mo (hp 60 (p1s x p) _ o (p1s_w c kx hw.2.2.2.2.1) (p1s_k kx) (by rw [p1s_i (by decide) (by decide)]; exact x67) (p1s_70 x70) (Nat.le_refl _) (p1s_r rx)) (fun y r hy => pk_lt ?_))))
  refine pk_br (fun z => pk_br (fun z2 => ?_) (fun _ => mat_55)) (fun _ => mat_55)
  exfalso
  have z := of_decide_eq_true z
  have z2 := of_decide_eq_true z2
  rw [upI_ne (by decide)] at z z2
  rcases hy with hy | ⟨-, q', hq', nc⟩
  · exact hy z
  · rw [hq'.2.1, u69] at z2
    have t4 := c.1.1.1
    have := (I_eq (x := (q' : Nat)) (y := (q : Nat)) (by omega) (by have := hq'.2.2; omega) (by omega) (by omega)).mp z2
    have : q' = q := by omega
    rw [this] at nc
    exact nq nc
end
