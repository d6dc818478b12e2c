/-! the reference's ways out, and the fewest -/
section G2
variable {d : Nat} {I : Nat → Nat → Int} {sp rt : Nat} {tt : Nat → Nat} {z : Zs}
theorem S_264 {P m : Nat} {a t : Int} {fw : Nat → Int} (hv : NV (I 119) (I 120) m P) (hP : I 82 6 = P ∧ P ≤ 80) (hm : I 82 7 = m ∧ m ≤ 150) (ha : 0 ≤ a ∧ a < P) (ht : 0 ≤ t ∧ t < P) (hw : ∀ r, r < m → I 128 r = fw r) (hb0 : ∀ r, r < m → -1 ≤ I 128 r ∧ I 128 r ≤ 1) : ∃ J, Call PG (d + 2) 264 [(2, 82), (0, a), (0, t)] (I, RF sp rt tt z.1, z) = some (some (0, if (fnd (I 119) (I 120) fw a t m P).1 t.toNat = -1 then 0 else 1), (J, RF sp rt tt z.1, z)) ∧ FRr I J ∧ (¬ (fnd (I 119) (I 120) fw a t m P).1 t.toNat = -1 → (∀ r, r < m → J 128 r = AU (I 119) (I 120) (fnd (I 119) (I 120) fw a t m P).1 a 80 t fw r) ∧ ∀ r, r < m → -1 ≤ J 128 r ∧ J 128 r ≤ 1) := by
  have hf : ∀ b, b < P → fl (I 129) P (-1) b = -1 := fun b hb => fl_in hb
  have hE := FS_cg (f := fl (I 129) P (-1)) (f' := fun _ => -1) (g := I 125) (g' := fun _ => 0) hv hw hf (fun _ _ => rfl) ha ht P
  have hF : FI (I 119) (I 120) (I 128) a m P (FS (I 119) (I 120) (I 128) a t m P (fl (I 129) P (-1)) (I 125)) := FI_all hv hf ha P
  have e1 : (FS (I 119) (I 120) (I 128) a t m P (fl (I 129) P (-1)) (I 125)).1 t.toNat = (fnd (I 119) (I 120) fw a t m P).1 t.toNat := hE.1 t.toNat (by omega)
  by_cases c : (fnd (I 119) (I 120) fw a t m P).1 t.toNat = -1
  · rw [if_pos c]
    refine ⟨_, S_264s (R := some (some (0, 0), (AH I (FS (I 119) (I 120) (I 128) a t m P (fl (I 129) P (-1)) (I 125)), RF sp rt tt z.1, z))) hv hP hm ha ht ?_, FRr_AH FRr_r, fun q => absurd c q⟩
    intro n k d5 d6 h5 h6
    exact ci_t (by omega) (ci_t (e1.trans c) rfl)
  · rw [if_neg c]
    have hle := FI_le ha hF
    rcases hF.2.2.1 t.toNat (by omega) with q | ⟨q1, i, q2, q3, q4⟩
    · exact absurd (e1.symm.trans q) c
    · have e : (FS (I 119) (I 120) (I 128) a t m P (fl (I 129) P (-1)) (I 125)).2.1 i = t := by
        have : (FS (I 119) (I 120) (I 128) a t m P (fl (I 129) P (-1)) (I 125)).2.1 i = ((t.toNat : Nat) : Int) := q4
        omega
      have hl := fun n0 d5 h5 d6 h6 => S_264l (d := d) (sp := sp) (rt := rt) (tt := tt) (z := z) (t := t) (n0 := n0) (X := AH I (FS (I 119) (I 120) (I 128) a t m P (fl (I 129) P (-1)) (I 125))) (m := m) hv hP.2 hm.2 ha rfl hF 80 0 i (I 128) rfl (by omega) q3 (fun r hr => by have := hb0 r hr; omega) d5 h5 d6 h6
      rw [e, show pc (AH I (FS (I 119) (I 120) (I 128) a t m P (fl (I 129) P (-1)) (I 125))) 128 (I 128) = AH I (FS (I 119) (I 120) (I 128) a t m P (fl (I 129) P (-1)) (I 125)) from pc_self] at hl
      have ho := AU_out hv ha hF 80 i (I 128) (by omega) q2 q3 hb0 (fun _ _ _ => rfl)
      rw [e] at ho
      refine ⟨pc (AH I (FS (I 119) (I 120) (I 128) a t m P (fl (I 129) P (-1)) (I 125))) 128 (AU (I 119) (I 120) (FS (I 119) (I 120) (I 128) a t m P (fl (I 129) P (-1)) (I 125)).1 a 80 t (I 128)), S_264s hv hP hm ha ht ?_, FRr_pc (FRr_AH FRr_r) (by omega), fun _ => ⟨fun r hr => ?_, ho.1⟩⟩
      · intro n k d5 d6 h5 h6
        refine ci_t (by omega) (ci_f (fun w => c (e1.symm.trans w)) ?_)
        exact hl n d5 h5 d6 h6
      · show AU (I 119) (I 120) (FS (I 119) (I 120) (I 128) a t m P (fl (I 129) P (-1)) (I 125)).1 a 80 t (I 128) r = _
        have h2 := AU_f (f' := (fnd (I 119) (I 120) fw a t m P).1) hF (fun b hb => hE.1 b hb) 80 i (I 128) q3
        rw [e] at h2
        rw [h2]
        exact AU_w 80 t (I 128) fw hw r hr
theorem S_263 {P m : Nat} {a t : Int} (hv : NV (I 119) (I 120) m P) (hP : I 82 6 = P ∧ P ≤ 80) (hm : I 82 7 = m ∧ m ≤ 150) (ha : 0 ≤ a ∧ a < P) (ht : 0 ≤ t ∧ t < P) (hp : 0 ≤ I 114 a.toNat ∧ I 114 a.toNat < 12) (hk : I 115 (I 114 a.toNat).toNat = t) : ∃ J, Call PG (d + 3) 263 [(2, 82), (0, a)] (I, RF sp rt tt z.1, z) = some (some (0, wy (I 119) (I 120) a t m P 151 (fun _ => 0)), (J, RF sp rt tt z.1, z)) ∧ FRr I J := by
  have key : ∀ (n c : Nat) (fw : Nat → Int) (x3 : Int) (J : Nat → Nat → Int), m < c + n → outf (I 119) (I 120) a m fw = c → c ≤ m → FRr I J → (∀ r, r < m → J 128 r = fw r) → (∀ r, r < m → -1 ≤ J 128 r ∧ J 128 r ≤ 1) → ∃ J', Run PG (Call PG (d + 2)) 263 25 [(2, 82), (0, a), (0, (c : Int)), (0, x3)] [] (J, RF sp rt tt z.1, z) (0, 0) = some (some (0, c + wy (I 119) (I 120) a t m P n fw), (J', RF sp rt tt z.1, z)) ∧ FRr I J' := by
    intro n
    induction n with
    | zero => intro c fw x3 J h1 _ h2; omega
    | succ n ih =>
      intro c fw x3 J h1 ho h2 hJ hw hb0
      have e114 : J 114 = I 114 := FRr_f hJ (by decide)
      have e115 : J 115 = I 115 := FRr_f hJ (by decide)
      have e119 : J 119 = I 119 := FRr_f hJ (by decide)
      have e120 : J 120 = I 120 := FRr_f hJ (by decide)
      have e6 : J 82 6 = I 82 6 := hJ 82 6 (by decide)
      have e7 : J 82 7 = I 82 7 := hJ 82 7 (by decide)
      have hs := S_264 (d := d) (sp := sp) (rt := rt) (tt := tt) (z := z) (I := J) (P := P) (m := m) (a := a) (t := t) (fw := fw) (by rw [e119, e120]; exact hv) (by rw [e6]; exact hP) (by rw [e7]; exact hm) ha ht hw hb0
      rw [e119, e120] at hs
      obtain ⟨J2, q1, q2, q3⟩ := hs
      have hrun : ∀ R, Run PG (Call PG (d + 2)) 263 41 [(2, 82), (0, a), (0, (c : Int)), (0, x3)] [(0, if (fnd (I 119) (I 120) fw a t m P).1 t.toNat = -1 then 0 else 1)] (J2, RF sp rt tt z.1, z) (0, 0) = R → Run PG (Call PG (d + 2)) 263 25 [(2, 82), (0, a), (0, (c : Int)), (0, x3)] [] (J, RF sp rt tt z.1, z) (0, 0) = R := by
        intro R hR
        refine (T_263_25 ..).trans ?_
        refine ci_t (by omega) ?_
        rw [e114, e115, hk]
        refine ci_t hp ?_
        exact bd_t q1 hR
      unfold wy
      by_cases g : (fnd (I 119) (I 120) fw a t m P).1 t.toNat = -1
      · rw [if_pos g] at hrun ⊢
        refine ⟨J2, hrun _ ((T_263_41 ..).trans (ci_t (by omega) ?_)), FRr_t hJ q2⟩
        rw [Int.add_zero]
      · rw [if_neg g] at hrun ⊢
        obtain ⟨w1, w2⟩ := q3 g
        have fo := fnd_out hv hP.2 ha ht (fun r hr => by rw [← hw r hr]; exact hb0 r hr) g
        have fl := outf_le (A := I 119) (B := I 120) (a := a) (m := m) fo.1
        obtain ⟨J', r1, r2⟩ := ih (c + 1) (AU (I 119) (I 120) (fnd (I 119) (I 120) fw a t m P).1 a 80 t fw) x3 J2 (by omega) (by rw [fo.2, ho]; rfl) (by rw [fo.2, ho] at fl; omega) (FRr_t hJ q2) w1 w2
        refine ⟨J', hrun _ ((T_263_41 ..).trans (ci_f (by omega) ?_)), r2⟩
        rw [ws_n (by omega)]
        refine r1.trans ?_
        have : ((c + 1 : Nat) : Int) + wy (I 119) (I 120) a t m P n (AU (I 119) (I 120) (fnd (I 119) (I 120) fw a t m P).1 a 80 t fw) = (c : Int) + (1 + wy (I 119) (I 120) a t m P n (AU (I 119) (I 120) (fnd (I 119) (I 120) fw a t m P).1 a 80 t fw)) := by rw [← Int.add_assoc]; rfl
        rw [this]
  have z0 : ∀ r, r < m → pc I 128 (fl (I 128) m 0) 128 r = 0 := fun r hr => fl_in (by omega)
  obtain ⟨J, h1, h2⟩ := key 151 0 (fun _ => 0) (m : Int) (pc I 128 (fl (I 128) m 0)) (by omega) outf_0 (by omega) (FRr_pc FRr_r (by omega)) z0 (fun r hr => by rw [z0 r hr]; omega)
  refine ⟨J, (K_263 ..).trans ((T_263_0 ..).trans ?_), h2⟩
  have h := loop_p (fun (i : Nat) (f : Nat → Int) => ud f i 0) (fun (i : Nat) (f : Nat → Int) => Run PG (Call PG (d + 2)) 263 4 [(2, 82), (0, a), (0, 0), (0, (i : Int))] [] (pc I 128 f, RF sp rt tt z.1, z) (0, 0) = some (some (0, wy (I 119) (I 120) a t m P 151 (fun _ => 0)), (J, RF sp rt tt z.1, z))) m (I 128) ?_ ?_
  · rw [pc_self] at h; exact h
  · intro i f hi hfi hr
    refine (T_263_4 ..).trans ?_
    refine ci_t (show (i : Int) < I 82 7 by omega) ?_
    refine ci_t (by omega) ?_
    rw [ws_n (by omega), up2_pc]
    exact hr
  · have e : ∀ i, itr (fun (i : Nat) (f : Nat → Int) => ud f i 0) i (I 128) = fl (I 128) i 0 := by
      intro i
      induction i with
      | zero => exact fl_0.symm
      | succ i ih => show ud (itr _ i (I 128)) i 0 = _; rw [ih, fl_s]
    rw [e]
    refine (T_263_4 ..).trans ?_
    refine ci_f (show ¬ (m : Int) < I 82 7 by omega) ?_
    refine h1.trans ?_
    rw [show ((0 : Nat) : Int) = 0 from rfl, Int.zero_add]
theorem S_262 {a : Int} (h : 0 ≤ a ∧ a < 80) (h2 : 0 ≤ I 114 a.toNat ∧ I 114 a.toNat < 12) : Call PG (d + 1) 262 [(2, 82), (0, a)] (I, RF sp rt tt z.1, z) = some (some (0, bz (I 115 (I 114 a.toNat).toNat = a)), (I, RF sp rt tt z.1, z)) := by
  refine (K_262 ..).trans ?_
  repeat' (first | refine ci_bt (by omega) ?_ | refine ci_bf (by omega) ?_ | refine ite_b01 ?_ | refine ci_b (fun _ => ?_) (fun _ => ?_) | refine ci_t (by omega) ?_ | refine ci_f (by omega) ?_ | refine ite_t (by omega) ?_ | refine ite_f (by omega) ?_ | refine (T_262_0 ..).trans ?_ | refine ci_c (fun _ => ?_) (fun _ => ?_))
  all_goals first | exact rb1 (by omega) | exact rb0 (by omega) | exact rbc (by omega)
theorem S_261 {P m : Nat} {p : Int} (hv : NV (I 119) (I 120) m P) (hP : I 82 6 = P ∧ P ≤ 80) (hm : I 82 7 = m ∧ m ≤ 150) (hN : ∀ x : Nat, x < P → (0 ≤ I 114 x ∧ I 114 x < 12) ∧ 0 ≤ I 115 (I 114 x).toNat ∧ I 115 (I 114 x).toNat < P) : ∃ J, Call PG (d + 4) 261 [(2, 82), (0, p)] (I, RF sp rt tt z.1, z) = some (some (0, FWV (I 119) (I 120) (I 114) (I 115) m P p), (J, RF sp rt tt z.1, z)) ∧ FRr I J := by
  obtain ⟨W, eW⟩ : ∃ W : Nat → Int, ∀ x, W x = WV (I 119) (I 120) (I 114) (I 115) m P x := ⟨_, fun _ => rfl⟩
  obtain ⟨G, eG⟩ : ∃ G : Nat → Int, ∀ k, G k = itr (fun (x : Nat) (f : Int) => if I 114 x = p ∧ ¬ I 115 (I 114 x).toNat = x ∧ (f = -1 ∨ WV (I 119) (I 120) (I 114) (I 115) m P x < f) then WV (I 119) (I 120) (I 114) (I 115) m P x else f) k (-1) := ⟨_, fun _ => rfl⟩
  have hG0 : G 0 = -1 := eG 0
  have hGs : ∀ k, G (k + 1) = if I 114 k = p ∧ ¬ I 115 (I 114 k).toNat = k ∧ (G k = -1 ∨ W k < G k) then W k else G k := fun k => by rw [eG, eG, eW]; rfl
  have hGP : FWV (I 119) (I 120) (I 114) (I 115) m P p = G P := (eG P).symm
  rw [hGP]
  have hw : ∀ x : Nat, wy (I 119) (I 120) x (I 115 (I 114 x).toNat) m P 151 (fun _ => 0) = W x := fun x => (eW x).symm
  clear eG eW hGP
  have key : ∀ (k x : Nat) (f : Int) (d4 : AV) (J : Nat → Nat → Int), x + k = P → FRr I J → f = G x → dl d4 → ∃ J', Run PG (Call PG (d + 3)) 261 4 [(2, 82), (0, p), (0, f), (0, (x : Int)), d4] [] (J, RF sp rt tt z.1, z) (0, 0) = some (some (0, G P), (J', RF sp rt tt z.1, z)) ∧ FRr I J' := by
    intro k
    induction k with
    | zero =>
      intro x f d4 J h1 hJ hf h4
      have hx : x = P := by omega
      have e6 : J 82 6 = I 82 6 := hJ 82 6 (by decide)
      refine ⟨J, (T_261_4 (hx4 := h4) ..).trans (ci_f (by omega) ?_), hJ⟩
      rw [hf, hx]
    | succ k ih =>
      intro x f d4 J h1 hJ hf h4
      have hx : x < P := by omega
      have hx2 : 0 ≤ (x : Int) ∧ (x : Int) < 80 := by omega
      have e6 : J 82 6 = I 82 6 := hJ 82 6 (by decide)
      have e7 : J 82 7 = I 82 7 := hJ 82 7 (by decide)
      have e114 : J 114 = I 114 := FRr_f hJ (by decide)
      have e115 : J 115 = I 115 := FRr_f hJ (by decide)
      have e119 : J 119 = I 119 := FRr_f hJ (by decide)
      have e120 : J 120 = I 120 := FRr_f hJ (by decide)
      have nx := hN x hx
      have hlt : (x : Int) < J 82 6 := by omega
      have ex : ∀ _ : Unit, w32 ((x : Int) + 1) = ((x + 1 : Nat) : Int) := fun _ => ws_n (by omega)
      by_cases c1 : I 114 x = p
      · have s62 := S_262 (d := d + 2) (I := J) (sp := sp) (rt := rt) (tt := tt) (z := z) (a := (x : Int)) hx2 (by rw [e114]; exact nx.1)
        rw [e114, e115] at s62
        by_cases c2 : I 115 (I 114 x).toNat = x
        · obtain ⟨J', r1, r2⟩ := ih (x + 1) f d4 J (by omega) hJ (by rw [hGs, ← hf, if_neg (fun q => q.2.1 c2)]) h4
          refine ⟨J', (T_261_4 (hx4 := h4) ..).trans (ci_t hlt (ci_t hx2 (ci_t (by rw [e114]; exact c1) (bd_t s62 ((T_261_27 (hx4 := h4) ..).trans (ci_bf c2 ?_)))))), r2⟩
          rw [ex ()]; exact r1
        · have hs := S_263 (d := d) (I := J) (sp := sp) (rt := rt) (tt := tt) (z := z) (P := P) (m := m) (a := (x : Int)) (t := I 115 (I 114 x).toNat) (by rw [e119, e120]; exact hv) (by rw [e6]; exact hP) (by rw [e7]; exact hm) (by omega) nx.2 (by rw [e114]; exact nx.1) (by rw [e114, e115]; rfl)
          rw [e119, e120, hw] at hs
          obtain ⟨J1, s1, s2⟩ := hs
          have hv' : ∀ v, v = (if f = -1 ∨ W x < f then W x else f) → v = G (x + 1) := by
            intro v hv1
            rw [hv1, hGs, ← hf]
            by_cases q : f = -1 ∨ W x < f
            · rw [if_pos q, if_pos ⟨c1, c2, q⟩]
            · rw [if_neg q, if_neg (fun w => q w.2.2)]
          have pre : ∀ R, Run PG (Call PG (d + 3)) 261 38 [(2, 82), (0, p), (0, f), (0, (x : Int)), d4] [(0, W x)] (J1, RF sp rt tt z.1, z) (0, 0) = R → Run PG (Call PG (d + 3)) 261 4 [(2, 82), (0, p), (0, f), (0, (x : Int)), d4] [] (J, RF sp rt tt z.1, z) (0, 0) = R := fun R hR => (T_261_4 (hx4 := h4) ..).trans (ci_t hlt (ci_t hx2 (ci_t (by rw [e114]; exact c1) (bd_t s62 ((T_261_27 (hx4 := h4) ..).trans (ci_bt c2 (bd_t s1 hR)))))))
          by_cases c3 : f = -1
          · obtain ⟨J', r1, r2⟩ := ih (x + 1) (W x) (0, W x) J1 (by omega) (FRr_t hJ s2) (hv' _ (by rw [if_pos (Or.inl c3)])) (dl0 _)
            refine ⟨J', pre _ ((T_261_38 (hx4 := h4) ..).trans (ci_t c3 ?_)), r2⟩
            rw [ex ()]; exact r1
          · by_cases c4 : W x < f
            · obtain ⟨J', r1, r2⟩ := ih (x + 1) (W x) (0, W x) J1 (by omega) (FRr_t hJ s2) (hv' _ (by rw [if_pos (Or.inr c4)])) (dl0 _)
              refine ⟨J', pre _ ((T_261_38 (hx4 := h4) ..).trans (ci_f c3 (ci_t c4 ?_))), r2⟩
              rw [ex ()]; exact r1
            · obtain ⟨J', r1, r2⟩ := ih (x + 1) f (0, W x) J1 (by omega) (FRr_t hJ s2) (hv' _ (by rw [if_neg (by rintro (q | q); exact c3 q; exact c4 q)])) (dl0 _)
              refine ⟨J', pre _ ((T_261_38 (hx4 := h4) ..).trans (ci_f c3 (ci_f c4 ?_))), r2⟩
              rw [ex ()]; exact r1
      · obtain ⟨J', r1, r2⟩ := ih (x + 1) f d4 J (by omega) hJ (by rw [hGs, ← hf, if_neg (fun q => c1 q.1)]) h4
        refine ⟨J', (T_261_4 (hx4 := h4) ..).trans (ci_t hlt (ci_t hx2 (ci_f (by rw [e114]; exact c1) ?_))), r2⟩
        rw [ex ()]; exact r1
  obtain ⟨J', r1, r2⟩ := key P 0 (-1) _ I (by omega) FRr_r hG0.symm dl9
  exact ⟨_, (K_261 ..).trans ((T_261_0 ..).trans r1), r2⟩
end G2

