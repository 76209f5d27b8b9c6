set_option maxRecDepth 100000
section
variable {m0 w0 m w v u u0 mf w2 : MS} {K nm Nk W : Nat → Nat} {T p n N q X n2 p2 ν : Nat} {sc sc2 t : SCT} {e : List Nat × List Nat × Nat} {own : Bool} {S : SG_M_rowPattern} {SC : SF_Pa_matched} {v1 v2 lg r : Int32}
theorem TWK_lt (c : CTZ m0 w0 K T nm Nk) (hp : p ≤ T) (h1 : 1 ≤ K p) (h2 : K p ≤ 44) : p < T := c.1.1.lt hp h1 h2
theorem WNQ_f (h : WNQ K T p sc2 lg w v) : WFP w v := ⟨h.2.2.2.1, h.2.2.2.2⟩
theorem RLP_on (h : RLP m0 w0 T p m w) (hm : mf.1 665 = I (q : Nat)) (hc : PCF m mf) (hw : WNQ K T q sc2 lg w w2) : RLP m0 w0 T q mf w2 := by
  refine ⟨Kc_tr h.1 (PCF_k hc), Kt_tr h.2.1 (WFP_k (WNQ_f hw)), hm, hw.1.2.1, hw.1.2.2, ?_, ?_⟩
  · rw [hc.1 666 (by decide), hw.2.2.2.1 70 (by decide)]; exact h.2.2.2.2.2.1
  · rw [hw.2.2.2.1 67 (by decide)]; exact h.2.2.2.2.2.2
theorem lgS_0 {g : Int32} : lgS sc 0 g = g := by
  cases sc with
  | nil => rfl
  | cons e t =>
    show lgX e 0 g = g
    unfold lgX
    rw [if_neg (fun z => absurd z.1 (Nat.lt_irrefl _))]
theorem SCX_0 (h : RNs w sc) : SCX sc sc 0 := by
  cases sc with
  | nil => exact absurd h.2.1.1 (by decide)
  | cons e t => exact SCX_rf
theorem pat_lf (c : CTZ m0 w0 K T nm Nk) (h : RLP m0 w0 T p m w) (hn : m.1 306 = I (n : Nat)) (hn2 : n ≤ 2 * p) (hR : RNs w sc) (hk : K p = 1 ∨ K p = 2 ∨ K p = 4) (ho : m.1 666 < 25) : PP (PAZ N m0 w0 K T nm Nk p n own sc m w) (hm_Pa_pattern N SC m) (fm_M_patternAt N S w v1) := by
  have hc := RLP_c c h
  have hw := RLP_w c h
  have t4 := c.1.1.1
  have hl : p < T := TWK_lt c h.2.2.2.2.1 (by omega) (by omega)
  have hb : bPK (K p) = true := by rcases hk with z | z | z <;> rw [z] <;> rfl
  unfold hm_Pa_pattern fm_M_patternAt
  obtain ⟨mf, e1, f1, f2, f3, f4, f5, f6⟩ := cPt_leaf (N := N) (SC := SC) hc ho hn (by omega) (by omega)
  rw [e1]
  refine pp_l ?_
  rw [pAt_e hw h.2.2.2.2.2.2, hb, pAt_101, show decide (b2c true = 0) = false from rfl, br_fq, if_neg (by omega)]
  refine pk_mo (pB_leaf (N := N) (S := S) (v1 := v1) hw (by rw [← h.2.2.2.2.2.1]; exact ho) hR hk hl) (fun w2 r q => ?_)
  have k3 : ∀ j, p ≤ j → j < p + 1 → K j ≠ 3 := fun j h1 h2 => by
    rw [show j = p by omega]; omega
  refine ⟨p + 1, n + 1, n + 1, sc, 0, fun _ => 32, rfl, ⟨by omega, Nat.le_refl _⟩, RLP_on h f2 f3 q, ⟨by omega, f1, by omega⟩, f4, f6, f3, q.2.1, SCO_0 hR, HDs_no (fun j h1 h2 h3 => absurd h3 (k3 j h1 h2)), ⟨by omega, by omega⟩, by rw [lgS_0]; exact q.2.2.1, WNQ_f q, ?_⟩
  exact ptn_leaf (k := K p) f5 (by omega) (Nat.le_refl _) (by omega) hk k3
theorem pB_name {x : Nat} (h : WP w K T p) (h0 : w.1 70 < 25) (hn : RNs w (e :: t)) (hk : K p = 3) (hl : p < T) (h7 : w.2.2.1 7 p = I (x : Nat)) (hx : x < 1400) (hu : UND w x ↔ nm x = 0) (ho : decide (v1 = 0) = !own) : PK (fun w2 _ => (nm x = 0 ∧ WNQ K T (p + 1) (e :: t) (w.1 66) w w2) ∨ (nm x ≠ 0 ∧ WNQ K T (p + 1) (rfP own x (e :: t)) (lgX e (rfX own x (e :: t)) (w.1 66)) w w2)) (bnd (fm_M_opens N w) (fun u8 _ => pAtB N S () v1 v2 u8)) := by
  rw [opn_e h0, bnd_s]
  generalize hM : upI w 70 (w.1 70 + 1) = M
  have hM1 : WP M K T p := by rw [← hM]; exact WP_e h (by rw [upI_ne (by decide)]; exact h.2.1) h.2.2 rfl rfl
  have hM2 : RNs M (e :: t) := by rw [← hM]; exact RNs_e hn (upI_ne (by decide)) (fun _ _ _ => rfl)
  have e66 : M.1 66 = w.1 66 := by rw [← hM]; exact upI_ne (by decide)
  have er : M.2.2.1 = w.2.2.1 := by rw [← hM]; rfl
  have hu2 : UND M x ↔ nm x = 0 := by
    unfold UND at hu ⊢
    rw [er]
    exact hu
  unfold pAtB
  refine pk_ck (fun _ => ?_)
  rw [(WP_i hM1).2.1, srt_dc hM1 srK_2, decide_eq_true hk, br_tq]
  refine pk_bnd (pk_mo (nP_m (N := N) (nm := nm) (own := own) hM1 hl hM2 (by rw [er]; exact h7) hx hu2 ho) (fun u r q => ?_))
  rw [e66] at q
  rcases q with ⟨q1, q2⟩ | ⟨q1, q2⟩
  · exact pk_mo (fin_388 (by rw [hM]; exact q2)) (fun w2 _ z => Or.inl ⟨q1, z⟩)
  · exact pk_mo (fin_388 (by rw [hM]; exact q2)) (fun w2 _ z => Or.inr ⟨q1, z⟩)
theorem rfX_le {x : Nat} (ok : SOK (e :: t)) (hx : x < 1400) : rfX own x (e :: t) ≤ 1400 ∧ tot (rfP own x (e :: t)) ≤ tot (e :: t) + 1 := by
  have l0 := nd_len 1400 _ ok.1.1 ok.1.2.1
  have new : x ∉ e.1 → e.1.length + 1 ≤ 1400 ∧ tot (bnS x (e :: t)) ≤ tot (e :: t) + 1 := fun nx => by
    have := (bnS_ok ok hx nx).1
    have l1 := nd_len 1400 _ this.1 this.2.1
    have l2 : (e.1 ++ [x]).length = e.1.length + 1 := by rw [List.length_append, List.length_singleton]
    have l1 : (e.1 ++ [x]).length ≤ 1400 := l1
    refine ⟨by omega, ?_⟩
    show tot t + (e.1 ++ [x]).length ≤ tot t + e.1.length + 1
    omega
  cases own with
  | false =>
    cases hf : fnb x (e :: t)
    · rw [(rf_n hf).1, (rf_n hf).2.1]
      exact new (fun z => by
        have : fnb x (e :: t) = true := fnb_e.mpr ⟨e, List.mem_cons_self, z⟩
        rw [hf] at this
        cases this)
    · rw [(rf_y hf).1, (rf_y hf).2.1, tot_hld]
      exact ⟨by omega, by omega⟩
  | true =>
    cases hf : e.1.contains x
    · rw [(ro_n (t := t) hf).1, (ro_n (t := t) hf).2.1]
      exact new (by simpa using hf)
    · rw [(ro_y (t := t) hf).1, (ro_y (t := t) hf).2.1]
      exact ⟨by omega, by omega⟩
theorem pat_nm (c : CTZ m0 w0 K T nm Nk) (h : RLP m0 w0 T p m w) (hn : m.1 306 = I (n : Nat)) (hn2 : n ≤ 2 * p) (hR : RNs w sc) (hk : K p = 3) (ho : m.1 666 < 25) (hv : decide (v1 = 0) = !own) : PP (PAZ N m0 w0 K T nm Nk p n own sc m w) (hm_Pa_pattern N SC m) (fm_M_patternAt N S w v1) := by
  have hc := RLP_c c h
  have hw := RLP_w c h
  have t4 := c.1.1.1
  have hl : p < T := TWK_lt c h.2.2.2.2.1 (by omega) (by omega)
  have hb : bPK (K p) = true := by rw [hk]; rfl
  obtain ⟨a7, b7, hx, hu⟩ := c.2.2.2 p hl hk
  have w7 : w.2.2.1 7 p = I (Nk p : Nat) := by rw [h.2.1.2 7 (by decide)]; exact b7
  have m7 : m.2.2.1 7 p = I (nm (Nk p) : Nat) := by rw [h.1.2 7 (by decide)]; exact a7
  have hu2 : UND w (Nk p) ↔ nm (Nk p) = 0 := by
    unfold UND at hu ⊢
    rw [h.2.1.2 16 (by decide), h.2.1.2 15 (by decide)]
    exact hu
  unfold hm_Pa_pattern fm_M_patternAt
  obtain ⟨mf, e1, f1, f2, f3, f4, f5, f6⟩ := cPt_leaf (N := N) (SC := SC) hc ho hn (by omega) (by omega)
  rw [e1]
  refine pp_l ?_
  rw [pAt_e hw h.2.2.2.2.2.2, hb, pAt_101, show decide (b2c true = 0) = false from rfl, br_fq]
  rw [hk, m7] at f5
  cases sc with
  | nil => exact absurd hR.2.1.1 (by decide)
  | cons e t =>
    have sl : t.length + 1 ≤ 27 := hR.2.1.2
    refine pk_mo (pB_name (N := N) (S := S) (nm := nm) (own := own) hw (by rw [← h.2.2.2.2.2.1]; exact ho) hR hk hl w7 hx hu2 hv) (fun w2 r q => ?_)
    have jp : ∀ j, p ≤ j → j < p + 1 → j = p := fun j a b => by omega
    rcases q with ⟨q1, q⟩ | ⟨q1, q⟩
    · rw [q1] at f5
      refine ⟨p + 1, n + 1, n + 1, e :: t, 0, fun _ => 32, rfl, ⟨by omega, Nat.le_refl _⟩, RLP_on h f2 f3 q, ⟨by omega, f1, by omega⟩, f4, f6, f3, q.2.1, SCO_rf, HDs_no (fun j _ _ _ => ⟨by show t.length + 1 ≤ 32 + 1; omega, Nat.le_refl _⟩), ⟨by omega, by omega⟩, by rw [lgS_0]; exact q.2.2.1, WNQ_f q, ?_⟩
      exact ptn_und f5 (by omega) (Nat.le_refl _) (by omega) (by omega) hk rfl
    · have dl := rfP_d (Nk := Nk) (K := K) (W := fun _ => rfL own (Nk p) (e :: t)) (p := p) (x := Nk p) (own := own) hR.2.2.2 (by omega) rfl hk rfl
      have xl := rfX_le (own := own) hR.2.2.2 hx
      refine ⟨p + 1, n + 1, n + 1, rfP own (Nk p) (e :: t), rfX own (Nk p) (e :: t), fun _ => rfL own (Nk p) (e :: t), rfl, ⟨by omega, Nat.le_refl _⟩, RLP_on h f2 f3 q, ⟨by omega, f1, by omega⟩, f4, f6, f3, q.2.1, ⟨dl.1, fun z => rfP_sn z⟩, dl.2, ⟨by omega, xl.1⟩, q.2.2.1, WNQ_f q, ?_⟩
      exact ptn_name c.2.2.1 f5 (by omega) (Nat.le_refl _) (by omega) hR.2.2.2 hx q1 (by omega) hk rfl
end
