/-! the fewest ways out, the class's; the reference's ways -/
def WV (A B PP bk : Nat → Int) (m P : Nat) (x : Nat) : Int := wy A B x (bk (PP x).toNat) m P 151 (fun _ => 0)
def FWV (A B PP bk : Nat → Int) (m P : Nat) (p : Int) : Int := itr (fun (x : Nat) (f : Int) => if PP x = p ∧ ¬ bk (PP x).toNat = x ∧ (f = -1 ∨ WV A B PP bk m P x < f) then WV A B PP bk m P x else f) P (-1)
theorem outf_0 {A B : Nat → Int} {a : Int} {m : Nat} : outf A B a m (fun _ => 0) = 0 := sm_zero (fun i _ => by dsimp only; split; rfl; split <;> rfl)
theorem WV_b {A B PP bk : Nat → Int} {m P x : Nat} (hv : NV A B m P) (hP : P ≤ 80) (hx : x < P) (ht : 0 ≤ bk (PP x).toNat ∧ bk (PP x).toNat < P) : 0 ≤ WV A B PP bk m P x ∧ WV A B PP bk m P x ≤ m := by
  have h1 := wy_b (A := A) (B := B) (a := x) (t := bk (PP x).toNat) (m := m) (P := P) 151 (fun _ => 0)
  have h2 := wy_out (A := A) (B := B) (a := x) (t := bk (PP x).toNat) (m := m) (P := P) hv hP (by omega) ht 151 (fun _ => 0) (fun _ _ => by omega)
  rw [outf_0] at h2
  unfold WV
  omega
theorem FWV_b {A B PP bk : Nat → Int} {m P : Nat} {p : Int} (hW : ∀ x, x < P → 0 ≤ WV A B PP bk m P x ∧ WV A B PP bk m P x ≤ 150) : ∀ k, k ≤ P → -1 ≤ itr (fun (x : Nat) (f : Int) => if PP x = p ∧ ¬ bk (PP x).toNat = x ∧ (f = -1 ∨ WV A B PP bk m P x < f) then WV A B PP bk m P x else f) k (-1) ∧ itr (fun (x : Nat) (f : Int) => if PP x = p ∧ ¬ bk (PP x).toNat = x ∧ (f = -1 ∨ WV A B PP bk m P x < f) then WV A B PP bk m P x else f) k (-1) ≤ 150 := by
  intro k
  induction k with
  | zero => intro _; exact ⟨Int.le_refl _, by show (-1 : Int) ≤ 150; omega⟩
  | succ k ih =>
    intro hk
    have i1 := ih (by omega)
    have i2 := hW k (by omega)
    show -1 ≤ (if PP k = p ∧ ¬ bk (PP k).toNat = k ∧ (itr _ k (-1) = -1 ∨ WV A B PP bk m P k < itr _ k (-1)) then WV A B PP bk m P k else itr _ k (-1)) ∧ (if PP k = p ∧ ¬ bk (PP k).toNat = k ∧ (itr _ k (-1) = -1 ∨ WV A B PP bk m P k < itr _ k (-1)) then WV A B PP bk m P k else itr _ k (-1)) ≤ 150
    split <;> omega
theorem FRc_37 {I J : Nat → Nat → Int} (h : FRc I J) {p : Nat} {v : Int} : FRc (up2 I 37 p v) (up2 J 37 p v) := fun a j h1 h2 h3 h4 h5 h6 => by
  rw [up2_def, up2_def, h a j h1 h2 h3 h4 h5 h6]
theorem ws_n {x : Nat} (h : x < 5000) : w32 ((x : Int) + 1) = ((x + 1 : Nat) : Int) := by rw [w32_of (by omega) (by omega)]; omega
section F3
variable {d : Nat} {I : Nat → Nat → Int} {sp rt : Nat} {tt : Nat → Nat} {z : Zs}
theorem S_66 {A B : Nat → Int} {P m : Nat} {p : Int} (hC : CN A B P m (I 27) (I 28) (I 29)) (h0 : I 25 0 = P) (hp : 0 ≤ p ∧ p < 12) (hN : ∀ x : Nat, x < P → (0 ≤ I 33 x ∧ I 33 x < 12) ∧ 0 ≤ I 34 (I 33 x).toNat ∧ I 34 (I 33 x).toNat < P) (hk : I 37 p.toNat = -2 ∨ I 37 p.toNat = FWV A B (I 33) (I 34) m P p) : ∃ J, Call PG (d + 5) 66 [(2, 25), (0, p)] (I, RF sp rt tt z.1, z) = some (some (0, FWV A B (I 33) (I 34) m P p), (J, RF sp rt tt z.1, z)) ∧ FRc (up2 I 37 p.toNat (FWV A B (I 33) (I 34) m P p)) J := by
  obtain ⟨hv, hP, hm⟩ := hC.1
  have hW : ∀ x, x < P → 0 ≤ WV A B (I 33) (I 34) m P x ∧ WV A B (I 33) (I 34) m P x ≤ 150 := fun x hx => by
    have := WV_b (A := A) (B := B) (PP := I 33) (bk := I 34) (m := m) hv hP hx (hN x hx).2
    omega
  have hb := fun k hk => FWV_b (A := A) (B := B) (PP := I 33) (bk := I 34) (m := m) (P := P) (p := p) hW k hk
  obtain ⟨W, eW⟩ : ∃ W : Nat → Int, ∀ x, W x = WV A B (I 33) (I 34) m P x := ⟨_, fun _ => rfl⟩
  obtain ⟨G, eG⟩ : ∃ G : Nat → Int, ∀ k, G k = itr (fun (x : Nat) (f : Int) => if I 33 x = p ∧ ¬ I 34 (I 33 x).toNat = x ∧ (f = -1 ∨ WV A B (I 33) (I 34) m P x < f) then WV A B (I 33) (I 34) m P x else f) k (-1) := ⟨_, fun _ => rfl⟩
  have hG0 : G 0 = -1 := eG 0
  have hGs : ∀ k, G (k + 1) = if I 33 k = p ∧ ¬ I 34 (I 33 k).toNat = k ∧ (G k = -1 ∨ W k < G k) then W k else G k := fun k => by rw [eG, eG, eW]; rfl
  have hGP : FWV A B (I 33) (I 34) m P p = G P := (eG P).symm
  rw [hGP]
  have hW : ∀ x, x < P → 0 ≤ W x ∧ W x ≤ 150 := fun x hx => by rw [eW]; exact hW x hx
  have hb : ∀ k, k ≤ P → -1 ≤ G k ∧ G k ≤ 150 := fun k hk => by rw [eG]; exact hb k hk
  have hw150 : ∀ (n : Nat) (x : Nat), n ≤ 151 → wy A B x (I 34 (I 33 x).toNat) m P n (fun _ => 0) = if W x < n then W x else n := fun n x hn => by
    have h := wy_min (A := A) (B := B) (a := (x : Int)) (t := I 34 (I 33 x).toNat) (m := m) (P := P) n (151 - n) (fun _ => 0)
    rw [show n + (151 - n) = 151 by omega] at h
    rw [h, eW]; rfl
  rw [hGP] at hk
  clear eG eW hGP
  by_cases c : I 37 p.toNat = -2
  · have key : ∀ (k x : Nat) (f : Int) (J : Nat → Nat → Int), x + k = P → FRc I J → f = G x → ∃ J', Run PG (Call PG (d + 4)) 66 22 [(2, 25), (0, p), (0, f), (0, (x : Int))] [] (J, RF sp rt tt z.1, z) (0, 0) = some (some (0, G P), (up2 J' 37 p.toNat (G P), RF sp rt tt z.1, z)) ∧ FRc I J' := by
      intro k
      induction k with
      | zero =>
        intro x f J h1 hJ hf
        have hx : x = P := by omega
        subst hx
        have e25 : J 25 0 = I 25 0 := hJ 25 0 (by decide) (by decide) (by decide) (by decide) (by decide) (by decide)
        refine ⟨J, (T_66_22 ..).trans (ci_f (by omega) (ci_t hp ?_)), hJ⟩
        rw [hf]
      | succ k ih =>
        intro x f J h1 hJ hf
        have hx : x < P := by omega
        have e25 : J 25 0 = I 25 0 := hJ 25 0 (by decide) (by decide) (by decide) (by decide) (by decide) (by decide)
        have e33 : J 33 = I 33 := FRc_f hJ (by decide) (by decide) (by decide) (by decide) (by decide) (by decide)
        have e34 : J 34 = I 34 := FRc_f hJ (by decide) (by decide) (by decide) (by decide) (by decide) (by decide)
        have nx := hN x hx
        have fb := hb x (by omega)
        rw [← hf] at fb
        have ex : ∀ _ : Unit, w32 ((x : Int) + 1) = ((x + 1 : Nat) : Int) := fun _ => ws_n (by omega)
        have hs : ∀ _ : Unit, G (x + 1) = if I 33 x = p ∧ ¬ I 34 (I 33 x).toNat = x ∧ (f = -1 ∨ W x < f) then W x else f := fun _ => by rw [hf]; exact hGs x
        by_cases c1 : I 33 x = p
        · have s67 := S_67 (d := d + 3) (I := J) (sp := sp) (rt := rt) (tt := tt) (z := z) (a := (x : Int)) (by omega) (by rw [e33]; exact nx.1)
          rw [e33, e34] at s67
          by_cases c2 : I 34 (I 33 x).toNat = x
          · obtain ⟨J', r1, r2⟩ := ih (x + 1) f J (by omega) hJ (by rw [hs (), if_neg (fun q => q.2.1 c2)])
            refine ⟨J', (T_66_22 ..).trans (ci_t (by omega) (ci_t (by omega) (ci_t (by rw [e33]; exact c1) (bd_t s67 ((T_66_45 ..).trans (ci_bf c2 ?_)))))), r2⟩
            rw [ex ()]; exact r1
          · have W0 := hW x hx
            have hs2 : ∀ (n : Nat) (v : Int), n ≤ 150 → v = wy A B x (I 34 (I 33 x).toNat) m P n (fun _ => 0) → (v = if f = -1 ∨ W x < f then W x else f) → ∃ J', bd (Call PG (d + 4) 68 [(2, 25), (0, (x : Int)), (0, (n : Int))] (J, RF sp rt tt z.1, z)) (fun v h => Run PG (Call PG (d + 4)) 66 65 [(2, 25), (0, p), (0, f), (0, (x : Int))] (v.toList ++ []) h (0, 0)) = some (some (0, G P), (up2 J' 37 p.toNat (G P), RF sp rt tt z.1, z)) ∧ FRc I J' := by
              intro n v hn hv1 hv2
              obtain ⟨J1, s1, s2⟩ := S_68 (d := d) (I := J) (sp := sp) (rt := rt) (tt := tt) (z := z) (A := A) (B := B) (P := P) (m := m) (a := (x : Int)) (t := I 34 (I 33 x).toNat) n (CN_fr hC hJ) hn (by omega) nx.2 (by rw [e33]; exact nx.1) (by rw [e33, e34]; rfl)
              obtain ⟨J', r1, r2⟩ := ih (x + 1) v J1 (by omega) (FRc_t hJ s2) (by
                rw [hs (), hv2]
                by_cases q : f = -1 ∨ W x < f
                · rw [if_pos q, if_pos ⟨c1, c2, q⟩]
                · rw [if_neg q, if_neg (fun w => q w.2.2)])
              refine ⟨J', bd_t s1 ((T_66_65 ..).trans ?_), r2⟩
              rw [ex (), ← hv1]; exact r1
            by_cases c3 : f = -1
            · have hw2 : wy A B x (I 34 (I 33 x).toNat) m P 150 (fun _ => 0) = W x := by
                rw [hw150 150 x (by omega)]
                split <;> omega
              obtain ⟨J', r1, r2⟩ := hs2 150 (W x) (Nat.le_refl _) hw2.symm (by rw [if_pos (Or.inl c3)])
              refine ⟨J', (T_66_22 ..).trans (ci_t (by omega) (ci_t (by omega) (ci_t (by rw [e33]; exact c1) (bd_t s67 ((T_66_45 ..).trans (ci_bt c2 (ci_t c3 r1))))))), r2⟩
            · skip
              obtain ⟨J', r1, r2⟩ := hs2 f.toNat (if f = -1 ∨ W x < f then W x else f) (by omega) (by
                rw [hw150 f.toNat x (by omega)]
                split <;> split <;> omega) rfl
              rw [show ((f.toNat : Nat) : Int) = f by omega] at r1
              refine ⟨J', (T_66_22 ..).trans (ci_t (by omega) (ci_t (by omega) (ci_t (by rw [e33]; exact c1) (bd_t s67 ((T_66_45 ..).trans (ci_bt c2 (ci_f c3 r1))))))), r2⟩
        · obtain ⟨J', r1, r2⟩ := ih (x + 1) f J (by omega) hJ (by rw [hs (), if_neg (fun q => c1 q.1)])
          refine ⟨J', (T_66_22 ..).trans (ci_t (by omega) (ci_t (by omega) (ci_f (by rw [e33]; exact c1) ?_))), r2⟩
          rw [ex ()]; exact r1
    obtain ⟨J', r1, r2⟩ := key P 0 (-1) I (by omega) FRc_r hG0.symm
    exact ⟨_, (K_66 ..).trans ((T_66_0 ..).trans (ci_t hp (ci_t c r1))), FRc_37 r2⟩
  · have e : I 37 p.toNat = G P := by rcases hk with q | q; exact absurd q c; exact q
    refine ⟨I, (K_66 ..).trans ((T_66_0 ..).trans (ci_t hp (ci_f c (ci_t hp ?_)))), ?_⟩
    · rw [e]
    · rw [← e, up2_to, show ud (I 37) p.toNat (I 37 p.toNat) = I 37 from funext fun j => by unfold ud; split; (rename_i h; rw [h]); rfl, pc_self]
      exact FRc_r
end F3

