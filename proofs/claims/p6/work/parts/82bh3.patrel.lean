set_option maxRecDepth 100000
def CTZ (m0 w0 : MS) (K : Nat → Nat) (T : Nat) (nm Nk : Nat → Nat) : Prop := TKC m0 K T ∧ TWK w0 K T ∧ NMJ nm ∧ ∀ j, j < T → K j = 3 → m0.2.2.1 7 j = I (nm (Nk j) : Nat) ∧ w0.2.2.1 7 j = I (Nk j : Nat) ∧ Nk j < 1400 ∧ (UND w0 (Nk j) ↔ nm (Nk j) = 0)
def RLP (m0 w0 : MS) (T p : Nat) (m w : MS) : Prop := Kcc m0 m ∧ Ktc w0 w ∧ m.1 665 = I (p : Nat) ∧ w.1 69 = I (p : Nat) ∧ p ≤ T ∧ m.1 666 = w.1 70 ∧ w.1 67 = 0
def PCF (m v : MS) : Prop := (∀ k, k ∉ [306, 665] → v.1 k = m.1 k) ∧ ∀ k, k < 16 ∨ 21 < k → v.2.2.1 k = m.2.2.1 k
def WFP (w v : MS) : Prop := (∀ k, k ∉ [32, 39, 66, 69] → v.1 k = w.1 k) ∧ ∀ k, k < 23 ∨ 65 ≤ k → v.2.2.1 k = w.2.2.1 k
def lgS (sc : SCT) (X : Nat) (g : Int32) : Int32 := match sc with
  | [] => g
  | e :: _ => lgX e X g
def PAZ (N : Nat) (m0 w0 : MS) (K : Nat → Nat) (T : Nat) (nm Nk : Nat → Nat) (p n : Nat) (own : Bool) (sc : SCT) (m w m2 : MS) (z : Int32 ⊕ Nat) (w2 : MS) (_ : Int32) : Prop := match z with
  | .inr _ => FLW w2
  | .inl ε => ∃ (p2 n2 ν : Nat) (sc2 : SCT) (X : Nat) (W : Nat → Nat), ε = I (ν : Nat) ∧ (n < ν ∧ ν ≤ n2) ∧ RLP m0 w0 T p2 m2 w2 ∧ (p < p2 ∧ m2.1 306 = I (n2 : Nat) ∧ n2 + 2 * p + 1 ≤ n + 2 * p2) ∧ KPO n m m2 ∧ m2.2.2.1 21 ν = 0 ∧ PCF m m2 ∧ RNs w2 sc2 ∧ SCO own sc sc2 X ∧ HDs Nk K W p p2 sc sc2 ∧ (tot sc2 ≤ tot sc + (p2 - p) ∧ X ≤ 1400) ∧ w2.1 66 = lgS sc X (w.1 66) ∧ WFP w w2 ∧ PTN N K nm m2 n n2 ν own p p2 sc sc2 X W
def pAtB (N : Nat) (S : SG_M_rowPattern) (G : Unit) (v1 v2 : Int32) (u8 : MS) : Option (MS × Int32) := ck (inb (u8.1 69) (ln 6)) (br (decide ((u8.2.2.1 6 (u8.1 69).toNatClampNeg) = 2)) (bnd (fm_M_namePattern N u8 v1) (fun u20 r20 => fb_M_patternAt_388 N S G u20 (r20))) (br (decide (v2 = 0)) (ck (inb (u8.1 69) (ln 6)) (br (decide ((u8.2.2.1 6 (u8.1 69).toNatClampNeg) = 4)) (fb_M_patternAt_160 N S G u8 (v2)) (ck (inb (u8.1 69) (ln 6)) (br (decide ((u8.2.2.1 6 (u8.1 69).toNatClampNeg) = 1)) (bnd (fm_M_pattern N u8 3) (fun u16 r16 => ck (inb (u16.1 69) (ln 7)) (bnd (fm_M_term N u16 1 (u16.2.2.1 7 (u16.1 69).toNatClampNeg)) (fun u17 r17 => ck (inb r16 (ln 34)) (lt (upJ u17 34 (vp_updL (u17.2.2.2 34) r16.toNatClampNeg r17)) (fun w18 => lt (upI w18 69 ((w18.1 69) + 1)) (fun w19 => fb_M_patternAt_388 N S G w19 (r16)))))))) (ck (inb (u8.1 69) (ln 6)) (br (decide ((u8.2.2.1 6 (u8.1 69).toNatClampNeg) = 5)) (bnd (fm_M_pattern N u8 4) (fun u13 r13 => ck (inb (u13.1 69) (ln 7)) (ck (inb r13 (ln 35)) (lt (upA u13 35 (upd (u13.2.2.1 35) r13.toNatClampNeg (u13.2.2.1 7 (u13.1 69).toNatClampNeg))) (fun w14 => lt (upI w14 69 ((w14.1 69) + 1)) (fun w15 => fb_M_patternAt_388 N S G w15 (r13))))))) (bnd (fm_M_takeSign N u8 0) (fun u9 r9 => br (decide (r9 = 0)) (bnd (S.1 u9 v1) (fun u10 r10 => fb_M_patternAt_388 N S G u10 (r10))) (bnd (S.2 u9 v1) (fun u11 r11 => bnd (fm_M_needSign N u11 1) (fun u12 _ => fb_M_patternAt_388 N S G u12 (r11)))))))))))) (fb_M_patternAt_160 N S G u8 (v2))))
section
variable {m0 w0 m w v u u0 : MS} {K nm Nk W : Nat → Nat} {T p n N : Nat} {sc t : SCT} {e : List Nat × List Nat × Nat} {own : Bool} {S : SG_M_rowPattern} {v1 v2 : Int32}
theorem pAt_101 {t0 : Int32} : fb_M_patternAt_101 N S () u v1 v2 t0 = br (decide (t0 = 0)) (bnd (fm_M_wrong N u 2) (fun u21 _ => some (u21, (-1)))) (bnd (fm_M_opens N u) (fun u8 _ => pAtB N S () v1 v2 u8)) := rfl
theorem Kf_pk {α : Type} {o : Option (MS × α)} (h : KfE u0 o) : PK (fun w _ => FLW w) o := fun w r e => h w r e
theorem pAtB_f (h : Kfc u0 u) (hS0 : ∀ (u : MS) a0, Kfc u0 u → KfE u0 (S.1 u a0)) (hS1 : ∀ (u : MS) a0, Kfc u0 u → KfE u0 (S.2 u a0)) : KfE u0 (pAtB N S () v1 v2 u) := by
  unfold pAtB
  repeat' (first | with_reducible assumption | with_reducible refine Kf_br ?_ ?_ | with_reducible refine Kf_bnd ?_ (fun _ _ _ => ?_) | with_reducible refine Kf_ck ?_ | with_reducible refine Kf_ltm ?_ (fun _ _ => ?_) | with_reducible refine Kf_some ?_ | with_reducible exact yf_fb_M_patternAt_388 (by assumption) hS0 hS1 | with_reducible exact yf_fb_M_patternAt_160 (by assumption) hS0 hS1 | with_reducible exact yf_fm_M_namePattern (by assumption) | with_reducible exact yf_fm_M_pattern (by assumption) | with_reducible exact yf_fm_M_term (by assumption) | with_reducible exact yf_fm_M_takeSign (by assumption) | with_reducible exact yf_fm_M_needSign (by assumption) | with_reducible exact hS0 _ _ (by assumption) | with_reducible exact hS1 _ _ (by assumption) | with_reducible refine Kf_ltv (fun _ => ?_) | with_reducible refine Kf_I ?_ (by decide) | with_reducible refine Kf_A ?_ | with_reducible refine Kf_J ?_ | with_reducible refine Kf_L ?_)
theorem RLP_c (c : CTZ m0 w0 K T nm Nk) (h : RLP m0 w0 T p m w) : CP m K T p := ⟨⟨c.1.1, fun j hj => by rw [h.1.2 6 (by decide)]; exact c.1.2 j hj⟩, h.2.2.1, h.2.2.2.2.1⟩
theorem RLP_w (c : CTZ m0 w0 K T nm Nk) (h : RLP m0 w0 T p m w) : WP w K T p := ⟨⟨c.2.1.1, fun j hj => by rw [h.2.1.2 6 (by decide)]; exact c.2.1.2.1 j hj, fun j hj => by rw [h.2.1.2 7 (by decide)]; exact c.2.1.2.2 j hj⟩, h.2.2.2.1, h.2.2.2.2.1⟩
theorem PCF_k (h : PCF m v) : Kcc m v := ⟨fun k hk => h.1 k (by simp only [List.mem_cons, List.not_mem_nil, or_false]; omega), fun k hk => h.2 k (by omega)⟩
theorem PCF_tr (h : PCF m v) (k : PCF v u) : PCF m u := ⟨fun j hj => (k.1 j hj).trans (h.1 j hj), fun j hj => (k.2 j hj).trans (h.2 j hj)⟩
theorem WFP_k (h : WFP w v) : Ktc w v := ⟨fun k hk => h.1 k (by unfold TIN at hk; simp only [List.mem_cons, List.not_mem_nil, or_false] at hk ⊢; omega), fun k hk => h.2 k (by unfold TRW at hk; simp only [List.mem_cons, List.not_mem_nil, or_false] at hk; omega)⟩
theorem WFP_tr (h : WFP w v) (k : WFP v u) : WFP w u := ⟨fun j hj => (k.1 j hj).trans (h.1 j hj), fun j hj => (k.2 j hj).trans (h.2 j hj)⟩
theorem Kc_tr (h : Kcc m v) (k : Kcc v u) : Kcc m u := ⟨fun j hj => (k.1 j hj).trans (h.1 j hj), fun j hj => (k.2 j hj).trans (h.2 j hj)⟩
theorem Kt_tr (h : Ktc m v) (k : Ktc v u) : Ktc m u := ⟨fun j hj => (k.1 j hj).trans (h.1 j hj), fun j hj => (k.2 j hj).trans (h.2 j hj)⟩
theorem lf_e (h : CP m K T p) (hn : m.1 306 = I (n : Nat)) (h8 : n + 1 < 8016) : hm_Pa_leaf N m = some (upI (adN m n (I (K p : Nat)) (I (p : Nat)) (m.2.2.1 7 p) 0 0) 665 (I ((p + 1 : Nat) : Int)), I ((n + 1 : Nat) : Int)) := by
  obtain ⟨a, b, c⟩ := CP_i h
  unfold hm_Pa_leaf hb_Pa_leaf_0
  rw [a, b, c, h.2.1, add_e hn h8]
  show some (upI (adN m n (I (K p : Nat)) (I (p : Nat)) (m.2.2.1 7 p) 0 0) 665 ((adN m n (I (K p : Nat)) (I (p : Nat)) (m.2.2.1 7 p) 0 0).1 665 + 1), _) = _
  rw [adN_i (by decide), h.2.1, i_suc]
end
