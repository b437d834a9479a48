/-! lines of a trick: what is kept, tails -/
def Lc (I I' : Nat → Nat → Int32) : Prop := Fr [60, 62, 63, 64, 65, 66, 67, 68, 69, 70, 71] I I' ∧ ∀ k, k ∉ [3, 4, 5, 7, 8] → I' 60 k = I 60 k
def Lm (K K' : Nat → Nat → Int32) : Prop := Fr [97, 104, 105, 106, 107, 108, 109] K K' ∧ (∀ k, k ∉ [12, 13, 16, 17, 18, 19, 20, 21, 23, 24, 25, 26, 27, 28, 29, 30, 31] → K' 97 k = K 97 k) ∧ Nf K K'
theorem Lc.refl (I : Nat → Nat → Int32) : Lc I I := ⟨Fr.refl _ _, fun _ _ => rfl⟩
theorem Lm.refl (I : Nat → Nat → Int32) : Lm I I := ⟨Fr.refl _ _, fun _ _ => rfl, Nf.refl _⟩
theorem Lc.trans {I I' I'' : Nat → Nat → Int32} (h : Lc I I') (h' : Lc I' I'') : Lc I I'' := ⟨h.1.trans h'.1, fun k hk => (h'.2 k hk).trans (h.2 k hk)⟩
theorem Lm.trans {I I' I'' : Nat → Nat → Int32} (h : Lm I I') (h' : Lm I' I'') : Lm I I'' := ⟨h.1.trans h'.1, fun k hk => (h'.2.1 k hk).trans (h.2.1 k hk), h.2.2.trans h'.2.2⟩
theorem Kc.l {y : Nat} {I I' : Nat → Nat → Int32} (h : Kc y I I') : Lc I I' := ⟨h.1.mono (by decide), h.2.1⟩
theorem Uk.l {I I' : Nat → Nat → Int32} (h : Uk 60 [3, 4, 5, 7, 8] I I') : Lc I I' := ⟨h.1.mono (by decide), h.2⟩
theorem Lc.ar {a k : Nat} {I I' : Nat → Nat → Int32} {v : Int32} (h : Lc I I') (ha : a ∈ [62, 63, 64, 65, 66, 67, 68, 69, 70, 71]) : Lc I (up I' a k v) := by
  have n60 : (60 : Nat) ≠ a := fun z => by rw [← z] at ha; exact absurd ha (by decide)
  refine ⟨h.1.up (List.mem_cons_of_mem _ ha), fun j hj => ?_⟩
  rw [up_ne n60]
  exact h.2 j hj
theorem Vm.l {y : Nat} {I I' : Nat → Nat → Int32} (h : Vm y I I') : Lm I I' := ⟨h.1.mono (by decide), fun k hk => h.2.1 k (fun z => hk (by
  revert z
  simp
  omega)), h.2.2.2⟩
theorem Uk.lm {ks : List Nat} {I I' : Nat → Nat → Int32} (h : Uk 97 ks I I') (hs : ∀ k, k ∈ ks → k ∈ [16, 17, 18, 19, 20, 21, 23, 24, 25, 26, 27, 28, 29, 30, 31]) : Lm I I' := ⟨h.1.mono (by decide), fun k hk => h.2 k (fun z => hk (List.mem_cons_of_mem _ (List.mem_cons_of_mem _ (hs k z)))), Nf.of (h.2 12 (fun z => absurd (hs 12 z) (by decide))) (h.2 13 (fun z => absurd (hs 13 z) (by decide)))⟩
/-- a fault is set -/
def Uf (I I' : Nat → Nat → Int32) : Prop := Uk 97 [12, 13] I I' ∧ Nf I I'
theorem Uf.lm {I I' : Nat → Nat → Int32} (h : Uf I I') (_ : True) : Lm I I' := ⟨h.1.1.mono (by decide), fun k hk => h.1.2 k (fun z => hk (by revert z; simp; omega)), h.2⟩
theorem Lm.ar {a k : Nat} {I I' : Nat → Nat → Int32} {v : Int32} (h : Lm I I') (ha : a ∈ [104, 105, 106, 107, 108, 109]) : Lm I (up I' a k v) := by
  have n97 : (97 : Nat) ≠ a := fun z => by rw [← z] at ha; exact absurd ha (by decide)
  refine ⟨h.1.up (List.mem_cons_of_mem _ ha), fun j hj => ?_, h.2.2.trans (Nf.of (by rw [up_ne n97]) (by rw [up_ne n97]))⟩
  rw [up_ne n97]
  exact h.2.1 j hj
theorem Lm.fk {k : Nat} {I I' : Nat → Nat → Int32} {v : Int32} (h : Lm I I') (hk : k ∈ [16, 17, 18, 19, 20, 21, 23, 24, 25, 26, 27, 28, 29, 30, 31]) : Lm I (up I' 97 k v) := by
  refine ⟨h.1.up (by decide), fun j hj => ?_, h.2.2.trans (Nf.of (up_nk (fun z => absurd hk (by rw [← z]; decide))) (up_nk (fun z => absurd hk (by rw [← z]; decide))))⟩
  rw [up_nk (show j ≠ k from fun z => hj (by rw [z]; exact List.mem_cons_of_mem _ (List.mem_cons_of_mem _ hk)))]
  exact h.2.1 j hj
theorem TC.l {t : Nat → Nat} {E : Nat} {I I' : Nat → Nat → Int32} (h : TC t E I) (u : Lc I I') : TC t E I' := h.fr (u.2 2 (by decide)) (u.1 61 (by decide))
theorem WZ.l {I I' : Nat → Nat → Int32} (z : WZ I) (u : Lc I I') : WZ I' := fun w hw => by
  have e1 : I' (18 + w) = I (18 + w) := u.1 _ (by simp; omega)
  have e2 : I' (35 + w) = I (35 + w) := u.1 _ (by simp; omega)
  rw [e1, e2]
  exact z w hw
theorem WC.l {I I' : Nat → Nat → Int32} (z : WC I) (u : Lc I I') : WC I' := fun W h1 h2 => by
  have e1 : I' W = I W := u.1 _ (by simp; omega)
  rw [e1]
  exact z W h1 h2
theorem TM.l {t : Nat → Nat} {E : Nat} {I I' : Nat → Nat → Int32} (h : TM t E I) (u : Lm I I') : TM t E I' := ⟨h.1, by rw [u.2.1 15 (by decide)]; exact h.2.1, fun i hi => by rw [u.1 102 (by decide)]; exact h.2.2 i hi⟩
def lo (i : Nat) : Nat := [2, 2, 0, 0].getD i 0
def hi (i : Nat) : Nat := [60, 6, 2, 59].getD i 0
def fld (i : Nat) : Nat := [23, 24, 26, 27].getD i 0
def TN (I : Nat → Nat → Int32) : Prop := ∀ i, i < 4 → I 53 i = nI (lo i) ∧ I 54 i = nI (hi i) ∧ I 55 i = nI ([27, 3, 0, 0].getD i 0)
theorem TN.l {I I' : Nat → Nat → Int32} (z : TN I) (u : Lc I I') : TN I' := fun i hi => by
  rw [u.1 53 (by decide), u.1 54 (by decide), u.1 55 (by decide)]
  exact z i hi
def gb (g : Nat → Nat) : Nat := g 0 * 8 + g 1 * 4 + g 2 * 64 + g 3 * 2
/-- numbers told so far -/
def LSn (q g : Nat → Nat) (I K : Nat → Nat → Int32) : Prop := (∀ i, i < 4 → I 63 i = nI (q i) ∧ I 64 i = nI (g i) ∧ g i < 2 ∧ lo i ≤ q i ∧ q i ≤ hi i ∧ K 97 (fld i) = nI (q i)) ∧ K 97 28 = nI (gb g)
/-- deals told so far -/
def LSr (s D : Nat) (R : Nat → List Int32) (A B Kd Sd : Nat → Nat) (I K : Nat → Nat → Int32) : Prop := D ≤ 8 ∧ A 0 = 0 ∧ B 0 = 0 ∧ A D ≤ s ∧ B D ≤ 2 * s ∧ I 62 6 = nI D ∧ I 67 7 = nI (A D) ∧ K 97 25 = nI D ∧ K 97 29 = nI (B D) ∧ ∀ d, d < D → Kd d < 3 ∧ Sd d < 2 ∧ A (d + 1) = A d + (R d).length ∧ B (d + 1) = B d + (encL (R d)).length + 1 ∧ EVP (R d) 1 ∧ I 65 d = nI (Kd d) ∧ I 66 d = nI (Sd d) ∧ I 69 d = nI (A (d + 1)) ∧ Row (I 68) (A d) (R d) ∧ K 104 d = nI (Kd d) ∧ K 105 d = nI (Sd d) ∧ K 106 d = nI (B d) ∧ Row (K 107) (B d) (encL (R d) ++ [0])
def LB (t : Nat → Nat) (E s e kd v sg W : Nat) (I K : Nat → Nat → Int32) (J : Nat → Nat → Int64) : Prop := TC t E I ∧ WZ I ∧ WC I ∧ TN I ∧ CT s e kd v sg I ∧ TM t E K ∧ MT s e kd v sg W K J ∧ K 97 12 = nI 0 ∧ Tok E s e kd v sg W ∧ (kd = 0 → s = E) ∧ (∃ q g, LSn q g I K) ∧ ∃ D R A B Kd Sd, LSr s D R A B Kd Sd I K
/-- how a line ends -/
def LnA (t : Nat → Nat) (E s : Nat) (I K : Nat → Nat → Int32) (J : Nat → Nat → Int64) (Y : Option (Int32 × (Nat → Nat → Int32) × Nat)) (X : Option ((Nat → Nat → Int32) × (Nat → Nat → Int64))) : Prop := ∃ s' e' kd' v' sg' W' I' K' J', Y = some (0, I', W') ∧ X = some (K', J') ∧ s < s' ∧ Lc I I' ∧ Lm K K' ∧ UJ J J' ∧ LB t E s' e' kd' v' sg' W' I' K' J'
def LnB (I K : Nat → Nat → Int32) (J : Nat → Nat → Int64) (Y : Option (Int32 × (Nat → Nat → Int32) × Nat)) (X : Option ((Nat → Nat → Int32) × (Nat → Nat → Int64))) : Prop := ∃ r s' W' I' K' J', 0 < r ∧ r < 10 ∧ Y = some (nI r, I', W') ∧ X = some (K', J') ∧ Lc I I' ∧ Lm K K' ∧ UJ J J' ∧ I' 60 4 = nI s' ∧ K' 97 12 = nI r ∧ K' 97 13 = nI s'
section TL
variable {t : Nat → Nat} {E s e kd v sg W r : Nat} {I K : Nat → Nat → Int32} {J : Nat → Nat → Int64}
theorem f146_t (c : Int32) (K : Nat → Nat → Int32) : ∃ b, f_146 c K = some b := by
  unfold f_146 lb_146_1 lb_146_2
  repeat' split
  all_goals first | exact ⟨_, rfl⟩ | contradiction
theorem f147_x {x : Int32} (h12 : K 97 12 = nI r) (h0 : 0 < r) (hr : r < 10) : f_147 x K J = some (K, J) := by
  rw [f_147, f145_n h12 h0 hr, Option.bind_some, if_pos (show nI 0 = 0 from rfl)]
theorem f147_0 (h12 : K 97 12 = nI 0) (h18 : K 97 18 = nI s) : f_147 (0 : Int32) K J = some (up (up K 97 12 (nI 1)) 97 13 (nI s), J) := by
  rw [f_147, f145_y h12, Option.bind_some, if_neg (show ¬ nI 1 = 0 by decide), if_pos rfl, show f_144 (1 : Int32) K = _ from f144_s (r := 1) h12 h18, Option.bind_some]
  rfl
theorem f147_1 (h12 : K 97 12 = nI 0) : f_147 (1 : Int32) K J = f_140 K J := by
  rw [f_147, f145_y h12, Option.bind_some, if_neg (show ¬ nI 1 = 0 by decide), if_neg (by decide)]
  cases f_140 K J with
  | none => rfl
  | some q => rfl
/-- a line's end with a fault -/
theorem l17_x (h12 : K 97 12 = nI r) (h0 : 0 < r) (hr : r < 10) : lb_161_17 K J = some (K, J) := by
  obtain ⟨b, hb⟩ := f146_t (59 : Int32) K
  rw [lb_161_17, hb, Option.bind_some, f147_x h12 h0 hr]
  rfl
theorem flt {x : Nat} (h12 : K 97 12 = nI 0) (h18 : K 97 18 = nI s) (h0 : 0 < x) (hx : x < 10) : f_144 (nI x) K = some (up (up K 97 12 (nI x)) 97 13 (nI s)) ∧ (up (up K 97 12 (nI x)) 97 13 (nI s)) 97 12 = nI x ∧ (up (up K 97 12 (nI x)) 97 13 (nI s)) 97 13 = nI s ∧ Uf K (up (up K 97 12 (nI x)) 97 13 (nI s)) := ⟨f144_s h12 h18, by rw [up_nk (by decide), up_at], up_at, ((Uk.refl _ _ _).up (by decide)).up (by decide), Nf.flt (r := x) (by rw [up_nk (by decide), up_at]) h0 hx⟩
theorem Tk.en {i s e kd v sg W : Nat} (h : Tk t E i s e kd v sg W) : kd = 0 → s = E := fun z => by
  obtain ⟨_, h⟩ := h
  rcases h with h | h | h | h
  · exact h.2.1
  · exact absurd (z.symm.trans h.1) (by decide)
  · exact absurd (z.symm.trans h.1) (by decide)
  · exact absurd (z.symm.trans h.1) (by decide)
/-- ';' and the next token -/
theorem semi_s (hTC : TC t E I) (hWZ : WZ I) (hCT : CT s e kd v sg I) (hTM : TM t E K) (hMT : MT s e kd v sg W K J) (h12 : K 97 12 = nI 0) (hTok : Tok E s e kd v sg W) : (sg = 59 ∧ ∃ s' e' kd' v' sg' W' I' K' J', f_20 I W = some (0, I', W') ∧ lb_161_17 K J = some (K', J') ∧ CT s' e' kd' v' sg' I' ∧ MT s' e' kd' v' sg' W' K' J' ∧ Tok E s' e' kd' v' sg' W' ∧ e ≤ s' ∧ Uk 60 [3, 4, 5, 7, 8] I I' ∧ Uk 97 [16, 17, 18, 19, 20, 21] K K' ∧ UJ J J' ∧ (kd' = 0 → s' = E)) ∨ (sg ≠ 59 ∧ f_20 I W = some (1, I, W) ∧ lb_161_17 K J = some (up (up K 97 12 (nI 1)) 97 13 (nI s), J)) := by
  obtain ⟨tk1, tk2, tk3, tk4, tk5, tk6, tk7, tk8, tk9⟩ := id hTok
  have s59 : f_146 (59 : Int32) K = some (nI (if sg = 59 then 1 else 0)) := f146_s (c := 59) hMT tk4 (by decide) tk9
  by_cases q : sg = 59
  · left
    obtain ⟨s', e', kd', v', sg', W', I', a1, a2, a3, a4, a5⟩ := f72_s W hTC hWZ hCT.1 tk2
    obtain ⟨b1, b2⟩ := a2.tok (fun x hx => (hTC.2.2 x hx).1) tk2
    obtain ⟨K', J', c1, c2, c3, c4⟩ := f140_s (J := J) hTM hMT.1 tk2 a2
    refine ⟨q, s', e', kd', v', sg', W', I', K', J', ?_, ?_, a3, c2, b1, b2, a5, c3, c4, a2.en⟩
    · rw [f_20, hCT.2.2.2.2, q, if_pos (show nI 59 = (59 : Int32) from rfl), a1]
      rfl
    · rw [lb_161_17, s59, Option.bind_some, if_pos q, show f_147 (nI 1) K J = _ from f147_1 h12, c1]
      rfl
  · right
    refine ⟨q, ?_, ?_⟩
    · rw [f_20, hCT.2.2.2.2, if_neg (show ¬ nI sg = (59 : Int32) from fun z => q ((eqN (b := 59) (by omega) (by decide)).mp z))]
    · rw [lb_161_17, s59, Option.bind_some, if_neg q, show f_147 (nI 0) K J = _ from f147_0 h12 hMT.2.1]
      rfl
end TL
