section
variable {Fv : Int64 → Int64 → Prop} {P : Int64 → Prop} {u v w w2 : MS} {PR N p n n2 opM bnM bxM bx2 ND fr k tp mu CN PN SN UN FN rq q m h mm : Nat} {ow kd ow2 kd2 ro rn rh cb pc ct pM pE : Nat → Nat} {T : TY} {C : CY}
def MVD (Fv : Int64 → Int64 → Prop) (P : Int64 → Prop) (p : Nat) (u : MS) (n : Nat) (ow kd : Nat → Nat) (opM bnM : Nat) (v : MS) (n2 : Nat) (ow2 kd2 : Nat → Nat) (fd : Int64 → Int64) : Prop :=
  (∀ i, i < opM → v.2.2.2 91 (46000 * p + i) = fd (u.2.2.2 91 (46000 * p + i))) ∧ (∀ i, i < bnM → v.2.2.2 93 (2500 * p + i) = fd (u.2.2.2 93 (2500 * p + i))) ∧
  (∀ i f s, i < opM → SZ (hp u p) n ow kd Fv P f (u.2.2.2 91 (46000 * p + i)) s → SZ (hp v p) n2 ow2 kd2 Fv P f (fd (u.2.2.2 91 (46000 * p + i))) s) ∧
  (∀ i f s, i < bnM → SZ (hp u p) n ow kd Fv P f (u.2.2.2 93 (2500 * p + i)) s → SZ (hp v p) n2 ow2 kd2 Fv P f (fd (u.2.2.2 93 (2500 * p + i))) s) ∧
  (∀ i j t, i < opM → LST (hp u p) j (u.2.2.2 91 (46000 * p + i)) t → LST (hp v p) j (fd (u.2.2.2 91 (46000 * p + i))) (fd t))
theorem wantsE (e : ERX Fv P PR T C ND CN p u fr ro rn rh cb pc ct q n ow kd opM bnM bxM mu) {k : Nat} (hk : k ≤ 100000) (hN : 60000 ≤ N) : OK (fun v r => ∃ n2 ow2 kd2 fd, ERX Fv P PR T C ND CN p v fr ro rn rh cb pc ct q n2 ow2 kd2 opM bnM bxM mu ∧ FR [136, 138] [139] [89, 90, 135] [88, 91, 93, 107, 134, 137] u v ∧ MVD Fv P p u n ow kd opM bnM v n2 ow2 kd2 fd ∧ ((r = I 1 ∧ n2 + k ≤ 500) ∨ r = I 0)) (fm_M_wants N u (I p) (I k)) := by
  have i := e.1
  obtain ⟨m1, m2, m3, m4, m5, m6⟩ := id i
  obtain ⟨x1, x2, x3, x4, x5, x6, x7, x8, x9, x10, x11⟩ := id m6
  refine ok_mono (wants_ok (N := N) m6 m5 (k := k) hk hN) (fun v r hv => ?_)
  obtain ⟨n2, ow2, kd2, fd, R, ⟨t1, t2, t3, t4, t5, t6, t7, t8, t9, t10, t11, t12⟩, h2⟩ := hv
  have mv : MEI Fv P PR v p n2 ow2 kd2 opM bnM bxM := MEI_upd i (FR.mo t6 (by decide) (by decide) (by decide) (by decide)) (by rw [FR.F t6 (by decide)]; exact m1.2.2.2.1) (fun z hz => by rw [t5, if_neg hz]) (fun z _ => FR.A t6 (by decide)) (fun z _ => FR.A t6 (by decide)) (fun z _ => FR.A t6 (by decide)) (fun j hj => t7 j hj) (fun j hj => RTS_out t8 x5.2 hj) (fun j hj => RTS_out t9 x6.2 hj) (fun j hj => RTS_out t10 x7.2 hj) (by rw [t5, if_pos rfl]) t3
  refine ⟨n2, ow2, kd2, fd, ERX_fr e t6 (by decide) (by decide) (by decide) mv e.2.2.2.2.2.2.1 e.2.2.2.2.2.2.2.1, t6, ⟨fun j hj => ((t8 (46000 * p + j)).1 ⟨by omega, by omega⟩).1, fun j hj => ((t9 (2500 * p + j)).1 ⟨by omega, by omega⟩).1, fun j f s hj z => HOM_sz t1 t2 x2 z ((t8 (46000 * p + j)).1 ⟨by omega, by omega⟩).2, fun j f s hj z => HOM_sz t1 t2 x2 z ((t9 (2500 * p + j)).1 ⟨by omega, by omega⟩).2, fun j k t hj l => LST_hom t1 k _ t ((t8 (46000 * p + j)).1 ⟨by omega, by omega⟩).2 l⟩, ?_⟩
  rcases h2 with h2 | h2
  · exact Or.inl h2
  · exact Or.inr h2.1
theorem noRoomR (e : ERX Fv P PR T C ND CN p u fr ro rn rh cb pc ct q n ow kd opM bnM bxM mu) (hPB : PB P PR) : OK (fun v _ => RES Fv P PR T C ND CN p mu u v) (fm_M_noRoom N u) :=
  ok_mono (noRoom_ok (N := N) e.1 hPB) (fun v _ hv => ⟨Or.inl hv.1, Or.inr ⟨FR.mo hv.2.1 (by decide) (by decide) (by decide) (by decide), hv.1.2⟩, OTF_fr hv.2.1 (by decide), hv.2.2⟩)
theorem top_e (h1 : F w 133 = p) (h2 : A w 92 p = ((opM : Nat) : Int)) (hp : p < 24) (ho : opM ≤ 46000) (hk : k < opM) : fm_M_top N w (I k) = some (w, w.2.2.2 91 (46000 * p + (opM - 1 - k))) := by
  unfold fm_M_top fb_M_top_0
  rw [I_F' h1, inb_at (k := 92) (n := 24) rfl (by omega) (by omega) (by decide), ck_t, I_tn (x := (p : Int)) (by omega) (by omega), Int.toNat_natCast, I_A' h2, show (46000 : Int32) = I 46000 from rfl, I_mul, I_add, lit1q, I_sub, I_sub, inb_at (k := 91) (n := 1104000) rfl (by omega) (by omega) (by decide), ck_t, I_tn (by omega) (by omega), show ((p : Int) * 46000 + (opM : Int) - 1 - (k : Int)).toNat = 46000 * p + (opM - 1 - k) from by omega]
theorem smm_ext {c d : Nat → Nat} {a b : Nat} : ∀ k, (∀ j, j < k → c (a + j) = d (b + j)) → smm c a k = smm d b k := by
  intro k
  induction k with
  | zero => intro _; rfl
  | succ k ih => intro h; show smm c a k + c (a + k) = smm d b k + d (b + k); rw [ih (fun j hj => h j (by omega)), h k (by omega)]
theorem smm_first {c : Nat → Nat} {a : Nat} : ∀ k, smm c a (k + 1) = c a + smm c (a + 1) k := by
  intro k
  induction k with
  | zero => show 0 + c (a + 0) = c a + 0; simp
  | succ k ih =>
    show smm c a (k + 1) + c (a + (k + 1)) = c a + (smm c (a + 1) k + c (a + 1 + k))
    rw [ih, show a + (k + 1) = a + 1 + k from by omega]; omega
theorem smm_rev {c : Nat → Nat} : ∀ k, smm (fun j => c (k - 1 - j)) 0 k = smm c 0 k := by
  intro k
  induction k with
  | zero => rfl
  | succ k ih =>
    rw [smm_first]
    show c (k + 1 - 1 - 0) + smm (fun j => c (k + 1 - 1 - j)) (0 + 1) k = smm c 0 k + c (0 + k)
    rw [smm_ext (d := fun j => c (k - 1 - j)) (b := 0) k (fun j hj => by show c (k + 1 - 1 - (0 + 1 + j)) = c (k - 1 - (0 + j)); congr 1; omega), ih]
    simp; omega
end
