set_option maxRecDepth 100000
def FUI (N : Nat) (w0 : MS) (K : Nat → Nat) (T : Nat) (nm Nk : Nat → Nat) (p n0 o φ : Nat) : Prop := (∃ (m1 : MS) (n1 q1 X : Nat), PTX N w0 K T nm Nk m1 n0 n1 φ p q1 o NC0 X ∧ 0 < rkK (K q1)) ∧ (K p = 1 → NC0 (K (p + 1)))
def HWo (N : Nat) (m0 w0 : MS) (K : Nat → Nat) (T : Nat) (nm Nk : Nat → Nat) (d : Nat) : Prop := ∀ D, EXS N m0 w0 K T nm Nk 1 NC0 ((hrc_Pa_matched N D).2.2.2.2.2.2.2.2.2.2.2.2.2.1) ((rc_M_behind N d).2.2.2.2.2.2.2.2.2.2.2.1)
section
variable {m0 w0 m w v u mB wB m2 w2 m3 w3 mi w' w1 mX : MS} {K nm Nk W W2 : Nat → Nat} {T p n N q X Y n2 n' p0 n0 n3 p2 ν μ κ o s L d D k q1 q2 lo li ni t0 b c0 b0 tt e0 cur lv len φ : Nat} {sc sc1 sc2 sc3 t t2 : SCT} {e e2 : List Nat × List Nat × Nat} {gd Rf Zf Rg Zg : Bool} {l l' : List Nat} {σ : List (Nat × Nat)} {r v1 v2 v3 v4 v5 x y am om am2 om2 : Int32} {CL CM : Int32 × Int32 × Int32 → Prop} {NC : Nat → Prop} {B1 B2 BC : MS → Prop}
theorem SLI_r (c : CTZ m0 w0 K T nm Nk) (h : SLI N m0 w0 K T nm Nk gd mB wB p n0 e t c0 b0 s m w q n e2 t2 am om l σ) : RLP m0 w0 T q m w ∧ RNs w (e2 :: t2) ∧ ND w ∧ m.1 306 = I (n : Nat) ∧ (p ≤ q ∧ n + 2 * p + s + σ.length ≤ n0 + 2 * q) ∧ (∀ k, k ∈ [70, 73] → w.1 k = wB.1 k) ∧ m.1 666 = mB.1 666 := by
  obtain ⟨X, W, Rf, Rs, Zf, CL, q0, a1, a2, a3, a4, a5, a6⟩ := h
  obtain ⟨a, x, y⟩ := STQ_nd a1
  have nb := a1.2.1
  refine ⟨?_, WFP_rn (STQ_rn a1) (by rw [upI_ne (by decide)]) rfl, ⟨a, by rw [upI_ne (by decide)] at x; exact x, y⟩, by have := nb.2.1; rw [upI_ne (by decide)] at this; exact this, ⟨nb.1, by omega⟩, fun k hk => ?_, ?_⟩
  · obtain ⟨h1, h2, h3, h4, h5, h6, h7⟩ := a1.1
    exact ⟨⟨fun k hk => by have := h1.1 k hk; rw [upI_ne (by omega)] at this; exact this, h1.2⟩, ⟨fun k hk => by have := h2.1 k hk; rw [upI_ne (by rintro rfl; revert hk; decide)] at this; exact this, h2.2⟩, by rw [upI_ne (by decide)] at h3; exact h3, by rw [upI_ne (by decide)] at h4; exact h4, h5, by rw [upI_ne (by decide), upI_ne (by decide)] at h6; exact h6, by rw [upI_ne (by decide)] at h7; exact h7⟩
  · have := a1.2.2.2.2.1.2.2.2.2.2.2.1.1 k (by simp only [List.mem_cons, List.not_mem_nil, or_false] at hk ⊢; omega)
    rw [upI_ne (by rintro rfl; revert hk; decide)] at this
    exact this
  · have := a1.2.2.2.1.1 666 (by decide)
    rw [upI_ne (by decide)] at this
    exact this
theorem SLI_end (c : CTZ m0 w0 K T nm Nk) (hn0 : n0 ≤ 2 * p) (h : SLI N m0 w0 K T nm Nk gd mB wB p n0 e t c0 b0 s m w q n e2 t2 am om l []) (hs : 2 ≤ s) (hφ : l.headD 0 = φ) (hf : FUI N w0 K T nm Nk p n0 o φ) (hpq : p < q) : n + 1 < 8016 ∧ m.1 306 = I (n : Nat) ∧ EXZ N m0 w0 K T nm Nk p n0 gd (e :: t) o NC0 mB wB (adN m n 22 (I (p : Nat)) (I (φ : Nat)) 0 0) (.inl (I ((n + 1 : Nat) : Int))) w r := by
  have hr := SLI_r c h
  obtain ⟨X, W, Rf, Rs, Zf, CL, q0, a1, a2, a3, a4, a5, a6⟩ := h
  have t4 := c.1.1.1
  have nb := a1.2.1
  have qT := a1.1.2.2.2.2.1
  have l0 : ([] : List (Nat × Nat)).length = 0 := rfl
  rw [l0] at a1 a5
  obtain ⟨⟨m1, n1, q1, X9, hx1, hx2⟩, hk1⟩ := hf
  have em : upI m 664 (mB.1 664) = m := upI_id (by rw [a5.1]; exact a5.2.2.2.1)
  have ew : upI w 83 (wB.1 83) = w := upI_id (by rw [a5.2.1]; exact a5.2.2.2.2.1)
  rw [em, ew] at a1
  refine ⟨by omega, hr.2.2.2.1, ?_⟩
  have s1 := STQ_add (s := 1) (a := 22) (b := I (p : Nat)) (c := I (φ : Nat)) (d := 0) (f := 0) (STQ_s2 (s2 := 2) a1 (by omega))
  have Ao := adN_o (m := m) (n := n) (a := 22) (b := I (p : Nat)) (c := I (φ : Nat)) (d := 0) (f := 0)
  have An := adN_nod (m := m) (n := n) (a := 22) (b := I (p : Nat)) (c := I (φ : Nat)) (d := 0) (f := 0)
  have kc : Kcc m (adN m n 22 (I (p : Nat)) (I (φ : Nat)) 0 0) := ⟨fun k hk => adN_i (by omega), fun k hk => adN_r (by omega)⟩
  generalize hA : adN m n 22 (I (p : Nat)) (I (φ : Nat)) 0 0 = A at s1 Ao An kc
  have a3 : Rf = Rs := by
    rw [a3]
    show (Rs || (gd && false)) = Rs
    rw [Bool.and_false, Bool.or_false]
  refine ⟨q, n + 1, n + 1, e2 :: t2, X, W, Rf, Zf, CL, rfl, ⟨by omega, Nat.le_refl _⟩, hpq, s1, An.2, ?_, PTX_der hx1 An.1 (by omega) (Nat.le_refl _) (by omega) (by decide) (by decide) (by decide) (fun _ z => z) (Or.inl hx2), 22, nod_16 An.1, by decide, fun z => absurd z (by decide), fun _ z => hk1 z, p, by omega, nod_17 An.1⟩
  rw [a3]
  have al := SGE_len a2
  exact exn_sig (l := l) (q := p) (q2 := q0) (am := am) (om := om) (by rw [hφ]; exact An.1) (by omega) (Nat.le_refl _) (by omega) ⟨Nat.le_refl _, al.1, a5.2.2.2.2.2.2.1⟩ (fun j h1 h2 => absurd h2 (by omega)) a5.2.2.2.2.2.2.2 (SGE_W a2) BCo_st Ao kc (by omega)
theorem sg_lp (c : CTZ m0 w0 K T nm Nk) (c45 : ∀ p, p ≤ T → K p ≠ 45) (hP : HPr N m0 w0 K T nm Nk d) (hn0 : n0 ≤ 2 * p) (h70 : wB.1 70 = I ((o + 1 : Nat) : Int)) (ho : o + 1 ≤ 25) (hg : decide (wB.1 73 = 0) = !gd) (hc0 : c0 ≤ 4001) : ∀ (M M1 M' : Nat) (m w : MS) (q n : Nat) (e2 : List Nat × List Nat × Nat) (t2 : SCT) (am om : Int32) (l : List Nat) (σ : List (Nat × Nat)) (k s : Nat) (v5 r : Int32), SLI N m0 w0 K T nm Nk gd mB wB p n0 e t c0 b0 s m w q n e2 t2 am om l σ → l.headD 0 = φ → (p < q ∧ p + 2 * k ≤ q) → ((v5 = 1 ∧ 1 ≤ s ∧ σ = [] ∧ l = [φ] ∧ (∀ r', EXZ N m0 w0 K T nm Nk p n0 gd (e :: t) o NC0 mB wB m (.inl (I (φ : Nat))) w r') ∧ (0 < rkK (K q) → FUI N w0 K T nm Nk p n0 o φ)) ∨ (v5 = 0 ∧ 2 ≤ s ∧ FUI N w0 K T nm Nk p n0 o φ)) → PP (EXZ N m0 w0 K T nm Nk p n0 gd (e :: t) o NC0 mB wB) (hg_Pa_signed N (hrc_Pa_matched N D) M m (I (p : Nat)) (I (c0 : Nat)) (I (φ : Nat)) (I ((l.getLastD 0 : Nat) : Int)) v5 (I (k : Nat))) (bnd (gg_M_reduce N M' w (I (b0 : Nat)) (I (rkK (K q) : Nat)) r 1) (wkF N (rc_M_behind N d) M1 (I (b0 : Nat)) (rkK (K q)))) := by
  intro M
  induction M with
  | zero => intros; exact pp_nl
  | succ M ih =>
    intro M1 M' m w q n e2 t2 am om l σ k s v5 r hS hφ hpk hv
    obtain ⟨rl, rn, nd, m306, hb, w7, m666⟩ := SLI_r c hS
    have t4 := c.1.1.1
    have hc := RLP_c c rl
    have hw := RLP_w c rl
    have h0 := rl.2.2.2.2.2.2
    have qT := rl.2.2.2.2.1
    have k46 := hc.1.1.k46 hc.2.2
    have rk6 : rkK (K q) ≤ 6 := by
      have : ∀ k, k < 46 → rkK k ≤ 6 := by decide
      exact this _ k46
    show PP _ (hb_Pa_signed_24 N (hrc_Pa_matched N D) (hg_Pa_signed N (hrc_Pa_matched N D) M) m (I (p : Nat)) (I (c0 : Nat)) (I (φ : Nat)) (I ((l.getLastD 0 : Nat) : Int)) v5 (I (k : Nat))) _
    unfold hb_Pa_signed_24
    rw [show (4000 : Int32) = I ((4000 : Nat) : Int) from rfl, decI (by omega) (by omega) (by omega) (by omega), decide_eq_false (by omega), br_fq, look_e hc (c45 _ qT), bTm_l, rk_e k46, bnd_s]
    have d0 : decide (I (rkK (K q) : Nat) ≤ 0) = decide (rkK (K q) = 0) := by
      rw [show (0 : Int32) = I ((0 : Nat) : Int) from rfl, decI (by omega) (by omega) (by omega) (by omega)]
      exact decide_eq_decide.mpr ⟨fun z => by omega, fun z => by omega⟩
    rw [d0]
    by_cases z0 : rkK (K q) = 0
    · rw [decide_eq_true z0, br_tq]
      unfold hb_Pa_signed_155
      rcases hv with ⟨rfl, hs, rfl, rfl, hE, -⟩ | ⟨rfl, hs, hf⟩
      · rw [show decide ((1 : Int32) = 0) = false from rfl, br_fq]
        obtain ⟨X, W, Rf, Rs, Zf, CL, q0, a1, a2, a3, a4, a5, a6⟩ := hS
        cases M' with
        | zero => exact pp_nr
        | succ M' =>
          show PP _ _ (bnd (fb_M_reduce_6 N (gg_M_reduce N M') w (I (b0 : Nat)) (I (rkK (K q) : Nat)) r 1) _)
          unfold fb_M_reduce_6 fb_M_reduce_258
          rw [show decide ((1 : Int32) = 0) = false from rfl, br_fq, a5.2.2.2.2.1, decI (by show -2147483648 ≤ ((b0 + 0 : Nat) : Int); omega) (by show ((b0 + 0 : Nat) : Int) < 2147483648; have := a5.2.2.1; have l0 : ([] : List (Nat × Nat)).length = 0 := rfl; rw [l0] at this; omega) (by omega) (by have := a5.2.2.1; omega), decide_eq_true (by show ((b0 + 0 : Nat) : Int) ≤ _; omega), br_tq, bnd_s]
          unfold wkF
          rw [if_pos z0]
          exact pp_end (hE r)
      · rw [show decide ((0 : Int32) = 0) = true from rfl, br_tq]
        have hb0 : b0 ≤ 3000 := by
          obtain ⟨X, W, Rf, Rs, Zf, CL, q0, a1, a2, a3, a4, a5, a6⟩ := hS
          have := a5.2.2.1
          omega
        have := cls_pp (R := EXZ N m0 w0 K T nm Nk p n0 gd (e :: t) o NC0 mB wB) (fC := fun u1 r1 => bnd (hm_Tr_add N u1 22 (I (p : Nat)) (I (φ : Nat)) 0 0) (fun u3 r3 => some (u3, .inl r3))) (f := wkF N (rc_M_behind N d) M1 (I (b0 : Nat)) (rkK (K q))) (lv := rkK (K q)) (s := s) (q := q) (mB := mB) (wB := wB) (gd := gd) (e := e) (t := t) (c0 := c0) (b0 := b0) c hn0 rk6 (fun _ _ _ _ z => z) (fun m' w' n3 e3 t3 am' om' l3 σ3 r3 h3 hd3 htop => ?_) (fun w' len r3 z => by omega) σ m w n e2 t2 am om l N M' r hS hφ
        · rw [z0] at this
          rw [z0]
          exact this
        · cases σ3 with
          | cons top rest =>
            have := htop top rfl
            omega
          | nil =>
            obtain ⟨y1, y2, y3⟩ := SLI_end (r := r3) c hn0 h3 hs hd3 hf hpk.1
            show PP _ (bnd (hm_Tr_add N m' 22 (I (p : Nat)) (I (φ : Nat)) 0 0) _) _
            rw [add_e y2 y1, bnd_s]
            unfold wkF
            rw [if_pos z0]
            exact pp_end y3
    · rw [decide_eq_false z0, br_fq, look_e hc (c45 _ qT), bTm_l, rk_e k46, bnd_s]
      have h1 : 1 ≤ rkK (K q) := by omega
      have rk := rk_k k46 h1
      have hq : q < T := TWK_lt c qT (by
        have : ∀ k, k < 46 → 1 ≤ rkK k → 1 ≤ k ∧ k ≤ 44 := by decide
        exact (this _ k46 h1).1) (by
        have : ∀ k, k < 46 → 1 ≤ rkK k → 1 ≤ k ∧ k ≤ 44 := by decide
        exact (this _ k46 h1).2)
      have hf : FUI N w0 K T nm Nk p n0 o φ ∧ 1 ≤ s := by
        rcases hv with ⟨-, hs, -, -, -, hf⟩ | ⟨-, hs, hf⟩
        · exact ⟨hf (by omega), hs⟩
        · exact ⟨hf, by omega⟩
      have hb0 : b0 ≤ 3000 := by
        obtain ⟨X, W, Rf, Rs, Zf, CL, q0, a1, a2, a3, a4, a5, a6⟩ := hS
        have := a5.2.2.1
        omega
      refine cls_pp (R := EXZ N m0 w0 K T nm Nk p n0 gd (e :: t) o NC0 mB wB) (φ := φ) (f := wkF N (rc_M_behind N d) M1 (I (b0 : Nat)) (rkK (K q))) (lv := rkK (K q)) (s := s) (q := q) (mB := mB) (wB := wB) (gd := gd) (e := e) (t := t) (c0 := c0) (b0 := b0) c hn0 rk6 (fun _ _ _ _ z => z) (fun m' w' n3 e3 t3 am' om' l3 σ3 r3 h3 hd3 htop => ?_) (fun w' len r3 z x83 xlen x79 x67 xw => ?_) σ m w n e2 t2 am om l N M' r hS hφ
      · obtain ⟨rl', rn', nd', m306', hb', w7', m666'⟩ := SLI_r c h3
        have hc' := RLP_c c rl'
        have hw' := RLP_w c rl'
        have h0' := rl'.2.2.2.2.2.2
        have num : m'.1 664 = I ((c0 + σ3.length : Nat) : Int) ∧ w'.1 83 = I ((b0 + σ3.length : Nat) : Int) ∧ b0 + σ3.length ≤ 3000 ∧ c0 + σ3.length ≤ 4002 ∧ l3 ≠ [] ∧ l3.getLastD 0 ≤ 8015 ∧ (∀ top rest, σ3 = top :: rest → w'.2.2.1 79 (b0 + rest.length) = I (rkK (K top.1) : Nat)) := by
          obtain ⟨X, W, Rf, Rs, Zf, CL, q0, a1, a2, a3, a4, a5, a6⟩ := h3
          obtain ⟨d1, d2, d3⟩ := SGE_hd a2 a4.1
          refine ⟨a5.2.2.2.1, a5.2.2.2.2.1, a5.2.2.1, a5.2.2.2.2.2.1, a4.1, by omega, fun top rest z => ?_⟩
          subst z
          obtain ⟨q', b'⟩ := top
          exact a6.1.2.1
        obtain ⟨n664, n83, nb3, nc2, ln0, ll8, n79⟩ := num
        have g73 : decide (w'.1 73 = 0) = !gd := by rw [w7' 73 (by decide)]; exact hg
        have ref : ∀ {a : Option (MS × (Int32 ⊕ Nat))}, (b0 + σ3.length < 3000 → ∀ w1 w2, PSS K q b0 σ3.length e3.1.length w' w1 → (((gd && decide (rkK (K q) = 4)) = false ∧ w2 = w1) ∨ ((gd && decide (rkK (K q) = 4)) = true ∧ w2.1 72 ≠ 0 ∧ (∀ k, k ≠ 71 → k ≠ 72 → w2.1 k = w1.1 k) ∧ w2.2.2.1 = w1.2.2.1)) → PP (EXZ N m0 w0 K T nm Nk p n0 gd (e :: t) o NC0 mB wB) a (fb_M_worked_292 N (rc_M_behind N d) (gg_M_worked N (rc_M_behind N d) M1) w2 (I (b0 : Nat)) r3 1)) → PP (EXZ N m0 w0 K T nm Nk p n0 gd (e :: t) o NC0 mB wB) a (wkF N (rc_M_behind N d) M1 (I (b0 : Nat)) (rkK (K q)) w' r3) := fun {a} hG => by
          have base := ps_r (R := EXZ N m0 w0 K T nm Nk p n0 gd (e :: t) o NC0 mB wB) (a := a) (v1 := I (b0 : Nat)) (r := r3) (M := M1) hw' (by omega) n83 nb3 h1 rn' nd' g73 hG
          unfold wkF
          rw [if_neg z0, I_dn (a := rkK (K q)) (b := 3) (s := 3) (by omega) (by decide) rfl]
          by_cases z3 : rkK (K q) = 3
          · rw [decide_eq_true z3, br_tq, n83, decI (by omega) (by omega) (by omega) (by omega)]
            cases σ3 with
            | nil =>
              rw [decide_eq_true (by show ((b0 + 0 : Nat) : Int) ≤ _; omega), br_tq]
              exact base
            | cons top rest =>
              have ll : (top :: rest).length = rest.length + 1 := rfl
              rw [ll, decide_eq_false (by omega), br_fq, show b0 + (rest.length + 1) = b0 + rest.length + 1 by omega, I_sn]
              refine r_ck (fun _ => ?_)
              have tp := htop top rfl
              rw [tnI (n := b0 + rest.length) rfl (by rw [ll] at nb3; omega), n79 top rest rfl, I_dn (a := rkK (K top.1)) (b := 3) (s := 3) (by omega) (by decide) rfl, decide_eq_false (p := rkK (K top.1) = 3) (by omega), br_fq]
              exact base
          · rw [decide_eq_false z3, br_fq]
            exact base
        show PP _ (ck (inb (m'.1 664) 4002) _) _
        refine l_ck (fun z664 => ?_)
        have hlen2 : c0 + σ3.length < 4002 := by
          rw [n664] at z664
          have := (I_inb (n := 4002) (x := ((c0 + σ3.length : Nat) : Int)) (by omega) (by omega)).mp z664
          omega
        refine l_lt (l_lt ?_)
        rw [n664, tnI (n := c0 + σ3.length) rfl (by omega), hc'.2.1]
        have e664 : ∀ g, (upA m' 34 g).1 664 + 1 = I ((c0 + σ3.length + 1 : Nat) : Int) := fun g => by show m'.1 664 + 1 = _; rw [n664, i_suc]
        rw [e664]
        have go : ∀ (mX : MS) (n' : Nat) (l' : List Nat) (am2 om2 : Int32), ((3 ≤ rkK (K q) ∧ mX = upI (upA m' 34 (upd (m'.2.2.1 34) (c0 + σ3.length) (I (q : Nat)))) 664 (I ((c0 + σ3.length + 1 : Nat) : Int)) ∧ n' = n3 ∧ l' = l3 ∧ am2 = am' ∧ om2 = om') ∨ (rkK (K q) ≤ 2 ∧ mX = upA (adN (upI (upA m' 34 (upd (m'.2.2.1 34) (c0 + σ3.length) (I (q : Nat)))) 664 (I ((c0 + σ3.length + 1 : Nat) : Int))) n3 24 (I (q : Nat)) (I (K q : Nat)) 0 0) 21 (upd ((adN (upI (upA m' 34 (upd (m'.2.2.1 34) (c0 + σ3.length) (I (q : Nat)))) 664 (I ((c0 + σ3.length + 1 : Nat) : Int))) n3 24 (I (q : Nat)) (I (K q : Nat)) 0 0).2.2.1 21) (l3.getLastD 0) (I ((n3 + 1 : Nat) : Int))) ∧ n' = n3 + 1 ∧ l' = l3 ++ [n3 + 1] ∧ ((K q = 6 ∧ am2 = I (tot (e3 :: t3) : Nat) ∧ om2 = om') ∨ (K q = 16 ∧ am2 = am' ∧ om2 = I (tot (e3 :: t3) : Nat))))) → mX.1 665 = I (q : Nat) → PP (EXZ N m0 w0 K T nm Nk p n0 gd (e :: t) o NC0 mB wB) (hb_Pa_signed_127 N (hrc_Pa_matched N D) (hg_Pa_signed N (hrc_Pa_matched N D) M) mX (I (p : Nat)) (I (c0 : Nat)) (I (φ : Nat)) (I ((l'.getLastD 0 : Nat) : Int)) 0 (I (k : Nat))) (wkF N (rc_M_behind N d) M1 (I (b0 : Nat)) (rkK (K q)) w' r3) := fun mX n' l' am2 om2 hm x665 => by
          refine ref (fun hlen w1 w2 hp hw2 => ?_)
          have S2 := SLI_push (mX := mX) (n' := n') (l' := l') (am2 := am2) (om2 := om2) c hn0 h3 htop h1 hq hlen hlen2 hp hw2 hm
          have w2f : ∀ k, k ≠ 71 → k ≠ 72 → k ≠ 32 → w2.1 k = w'.1 k := fun k k1 k2 k3 => by
            rcases hw2 with ⟨-, rfl⟩ | ⟨-, -, z, -⟩
            · exact hp.1 k k3
            · rw [z k k1 k2]; exact hp.1 k k3
          unfold hb_Pa_signed_127 fb_M_worked_292
          refine r_lt (r_lt (l_lt ?_))
          have e83 : w2.1 83 + 1 = I ((b0 + σ3.length + 1 : Nat) : Int) := by rw [w2f 83 (by decide) (by decide) (by decide), n83, i_suc]
          rw [e83]
          have e69 : (upI w2 83 (I ((b0 + σ3.length + 1 : Nat) : Int))).1 69 + 1 = I ((q + 1 : Nat) : Int) := by rw [upI_ne (by decide), w2f 69 (by decide) (by decide) (by decide), hw'.2.1, i_suc]
          rw [e69, x665, i_suc]
          obtain ⟨rlx, rnx, ndx, m306x, hbx, w7x, m666x⟩ := SLI_r c S2
          have l2x : l' ≠ [] ∧ l'.getLastD 0 ≤ 8015 ∧ l'.headD 0 = φ := by
            rcases hm with ⟨-, -, -, rfl, -⟩ | ⟨-, -, -, rfl, -⟩
            · exact ⟨ln0, ll8, hd3⟩
            · exact ⟨by simp, by rw [getLastD_snoc]; omega, by rw [headD_snoc ln0]; exact hd3⟩
          show PP _ (bTm ((hrc_Pa_matched N D).2.2.2.2.2.2.2.2.2.2.2.2.1 (advc mX q)) _) _
          generalize hw3 : upI (upI w2 83 (I ((b0 + σ3.length + 1 : Nat) : Int))) 69 (I ((q + 1 : Nat) : Int)) = w3 at S2 rlx rnx ndx w7x
          have hcx := RLP_c c rlx
          have hwx := RLP_w c rlx
          have h0x := rlx.2.2.2.2.2.2
          have b3x : w3.1 83 = I ((b0 + (σ3.length + 1) : Nat) : Int) := by rw [← hw3, upI_ne (by decide), upI_at]; congr 2
          rw [decide_eq_true h0x, br_tq, bU_m hwx, bnd_s]
          cases hbu : bUK (K (q + 1)) with
          | false =>
            rw [show decide (b2c false = 0) = true from rfl, br_tq]
            rcases un_rf (N := N) hcx (c45 _ hq) hbu D with z | z
            · rw [z]; exact pp_nl
            · exact pp_rf (RFS_T z) (fun mm => pk_bnd (fun v r z => w331_f (wrong_s (u0 := v) (by decide) v r z)))
          | true =>
            rw [show decide (b2c true = 0) = false from rfl, br_fq]
            unfold fb_M_worked_331
            cases M1 with
            | zero => exact pp_nr
            | succ M1 =>
              show PP _ _ (fb_M_worked_9 N (rc_M_behind N d) (gg_M_worked N (rc_M_behind N d) M1) w3 (I (b0 : Nat)) r3 1)
              unfold fb_M_worked_9
              rw [show decide ((1 : Int32) = 0) = false from rfl, br_fq, decide_eq_true h0x, br_tq]
              refine un_pp (gd := gd) c c45 hP (fun _ _ _ _ z => z) D M1 (advc mX q) w3 (q + 1) n' (e3 :: t3) o _ rlx m306x (by omega) rnx ndx (by rw [w7x 70 (by decide)]; exact h70) ho (by rw [w7x 73 (by decide)]; exact hg) (fun M2 m2 ε w2' r' k' hEu hU => ?_)
              obtain ⟨q2, n2, μ, sc4, X, W, Rf, Zf, CL, b1, b2, b3, b4, b5⟩ := id hEu
              have w2p : WP w2' K T q2 := by
                have := RLP_w c b4.1
                exact ⟨this.1, by have := this.2.1; rw [bkW_i (by decide) (by decide)] at this; exact this, this.2.2⟩
              have w2z : w2'.1 67 = 0 := by have := b4.1.2.2.2.2.2.2; rw [bkW_i (by decide) (by decide)] at this; exact this
              refine wkR_e w2p w2z (fun M3 => ?_)
              have fin : ∀ u r9 M9, SMS (bkW w3 w2') u → u.1 69 = (bkW w3 w2').1 69 → PP (EXZ N m0 w0 K T nm Nk p n0 gd (e :: t) o NC0 mB wB) (bnd (hm_Pa_chain N m2 (I ((l'.getLastD 0 : Nat) : Int)) ε) (fun u8 r8 => hg_Pa_signed N (hrc_Pa_matched N D) M u8 (I (p : Nat)) (I (c0 : Nat)) (I (φ : Nat)) r8 0 (I (k : Nat) + 1))) (bnd (gg_M_reduce N M9 u (I (b0 : Nat)) (I (rkK (K q2) : Nat)) r9 1) (wkF N (rc_M_behind N d) M3 (I (b0 : Nat)) (rkK (K q2)))) := fun u r9 M9 sm s69 => by
                obtain ⟨μ', q2', n2', e4, t4', x1, x2, x3, x4⟩ := SLI_unit c hn0 S2 hEu sm s69 hf.2
                have eq2 : q2' = q2 := by
                  have f1 := (SLI_r c x4).1.2.2.2.1
                  have f2 := b4.1.2.2.2.1
                  rw [s69, f2] at f1
                  have := (I_eq (x := (q2 : Nat)) (y := (q2' : Nat)) (by omega) (by have := b4.1.2.2.2.2.1; omega) (by omega) (by have := (SLI_r c x4).1.2.2.2.2.1; omega)).mp f1
                  omega
                subst eq2
                unfold hm_Pa_chain hb_Pa_chain_0
                rw [x1, tnI (n := l'.getLastD 0) rfl (by omega), bnd_ck]
                refine l_ck (fun _ => ?_)
                rw [bnd_lt]
                refine l_lt ?_
                rw [bnd_s, i_suc]
                have := ih M3 M9 _ u q2' n2' e4 t4' am2 om2 (l' ++ [μ']) ((q, e3.1.length) :: σ3) (k + 1) (s + 1) 0 r9 x4 (by rw [headD_snoc l2x.1]; exact l2x.2.2) ⟨by omega, by omega⟩ (Or.inr ⟨rfl, by omega, hf.1⟩)
                rw [getLastD_snoc] at this
                exact this
              rcases hU with ⟨rfl, y1, y2⟩ | ⟨t0, y1, y2, y3, y4, δ, y5, y6, y7⟩
              · have e2 : bkW w3 w2' = w2' := by
                  unfold bkW
                  rw [upI_id (k := 83) y1, upI_id (k := 70) y2]
                exact fin w2' r' N (by rw [e2]; exact SMS_rf) (by rw [e2])
              · have et : t0 = b0 + (σ3.length + 1) := by
                  have := y1.symm.trans b3x
                  have := (I_eq (x := (t0 : Nat)) (y := ((b0 + (σ3.length + 1) : Nat) : Int)) (by omega) (by omega) (by omega) (by omega)).mp this
                  omega
                have k46' := w2p.1.1.k46 w2p.2.2
                have rk6' : rkK (K q2) ≤ 6 := by
                  have : ∀ k, k < 46 → rkK k ≤ 6 := by decide
                  exact this _ k46'
                refine red_un (t0 := t0) (δ := δ) rk6' (by omega) k' N w2' r' y2 y3 y4 y7 (fun u r9 M9 sm s69 => fin u r9 M9 ?_ ?_)
                · unfold bkW
                  rw [y1, y5]
                  exact sm
                · rw [s69, bkW_i (by decide) (by decide)]
        rw [I_dn (a := K q) (b := 6) (s := 6) (by omega) (by decide) rfl, I_dn (a := K q) (b := 16) (s := 16) (by omega) (by decide) rfl]
        have hinge : ∀ (am2 om2 : Int32), rkK (K q) ≤ 2 → ((K q = 6 ∧ am2 = I (tot (e3 :: t3) : Nat) ∧ om2 = om') ∨ (K q = 16 ∧ am2 = am' ∧ om2 = I (tot (e3 :: t3) : Nat))) → PP (EXZ N m0 w0 K T nm Nk p n0 gd (e :: t) o NC0 mB wB) (hb_Pa_signed_102 N (hrc_Pa_matched N D) (hg_Pa_signed N (hrc_Pa_matched N D) M) (upI (upA m' 34 (upd (m'.2.2.1 34) (c0 + σ3.length) (I (q : Nat)))) 664 (I ((c0 + σ3.length + 1 : Nat) : Int))) (I (p : Nat)) (I (c0 : Nat)) (I (φ : Nat)) (I ((l3.getLastD 0 : Nat) : Int)) 0 (I (k : Nat)) (I (K q : Nat))) (wkF N (rc_M_behind N d) M1 (I (b0 : Nat)) (rkK (K q)) w' r3) := fun am2 om2 hk2 hao => by
          unfold hb_Pa_signed_102
          have i306 : (upI (upA m' 34 (upd (m'.2.2.1 34) (c0 + σ3.length) (I (q : Nat)))) 664 (I ((c0 + σ3.length + 1 : Nat) : Int))).1 306 = I (n3 : Nat) := by rw [upI_ne (by decide)]; exact m306'
          have i665 : (upI (upA m' 34 (upd (m'.2.2.1 34) (c0 + σ3.length) (I (q : Nat)))) 664 (I ((c0 + σ3.length + 1 : Nat) : Int))).1 665 = I (q : Nat) := by rw [upI_ne (by decide)]; exact hc'.2.1
          rw [i665, add_e i306 (by omega), bnd_s]
          unfold hm_Pa_chain hb_Pa_chain_0
          rw [tnI (n := l3.getLastD 0) rfl (by omega), bnd_ck]
          refine l_ck (fun _ => ?_)
          rw [bnd_lt]
          refine l_lt ?_
          rw [bnd_s]
          have a665 : (adN (upI (upA m' 34 (upd (m'.2.2.1 34) (c0 + σ3.length) (I (q : Nat)))) 664 (I ((c0 + σ3.length + 1 : Nat) : Int))) n3 24 (I (q : Nat)) (I (K q : Nat)) 0 0).1 665 = I (q : Nat) := (adN_i (by decide)).trans i665
          have := go _ (n3 + 1) (l3 ++ [n3 + 1]) am2 om2 (Or.inr ⟨hk2, rfl, rfl, rfl, hao⟩) a665
          rw [getLastD_snoc] at this
          exact this
        by_cases k6 : K q = 6
        · rw [decide_eq_true k6, br_tq]
          exact hinge _ _ (rk.1.mpr (Or.inl k6)) (Or.inl ⟨k6, rfl, rfl⟩)
        · rw [decide_eq_false k6, br_fq]
          by_cases k16 : K q = 16
          · rw [decide_eq_true k16, br_tq]
            exact hinge _ _ (rk.1.mpr (Or.inr k16)) (Or.inr ⟨k16, rfl, rfl⟩)
          · rw [decide_eq_false k16, br_fq]
            have hk3 : 3 ≤ rkK (K q) := by
              have : ¬ rkK (K q) ≤ 2 := fun z => by rcases rk.1.mp z with y | y <;> omega
              omega
            exact go _ n3 l3 am' om' (Or.inl ⟨hk3, rfl, rfl, rfl, rfl, rfl⟩) (by rw [upI_ne (by decide)]; exact hc'.2.1)
      · unfold wkF
        rw [if_neg z0, z, show decide (I ((3 : Nat) : Int) = 3) = true from rfl, br_tq, x83, decI (by omega) (by omega) (by omega) (by omega), decide_eq_false (by omega), br_fq, I_sn]
        refine pk_ck (fun _ => ?_)
        rw [tnI (n := b0 + len) rfl (by omega), x79, show decide ((3 : Int32) = 3) = true from rfl, br_tq]
        exact pk_bnd (fun v r z => w189_f (wrong_s (u0 := v) (by decide) v r z))
end
