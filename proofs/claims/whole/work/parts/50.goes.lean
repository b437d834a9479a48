/-! told, goes, end, sure, soonest, two -/
/-- what a call answers against the model's answer and throw -/
def OKq (cd : Nat → Nat) (q : Int32 ⊕ Nat) (b t : Int32) : Prop := match q with
  | .inl v => t = nI 0 ∧ v = b
  | .inr e => t = nI (cd e) ∧ 0 < cd e ∧ cd e < 3
def cdN (e : Nat) : Nat := if e = 1 then 1 else 0
def cdI (e : Nat) : Nat := if e = 0 then 1 else 0
def cdB (e : Nat) : Nat := if e = 1 then 1 else if e = 0 then 2 else 0
theorem e10 : (nI 1 = nI 0) = False := by decide
theorem n0N {a : Nat} (ha : a < 2147483648) : (nI a < nI 0) = False := eq_false (negN ha)
section GO
variable {C H N M w : Nat} {K S : Nat → Nat} {Y : Nat → Nat → Nat} {I : Nat → Nat → Int32}
theorem SetP.i4 (h : SetP C H N M w K S Y I) : I 79 4 = nI C := h.2.2.2.2.2.1.1
theorem SetP.i5 (h : SetP C H N M w K S Y I) : I 79 5 = nI H := h.2.2.2.2.2.1.2.1
theorem SetP.i8 (h : SetP C H N M w K S Y I) : I 79 8 = nI N := h.2.2.2.2.2.1.2.2.2.2.1
theorem SetP.m1 (h : SetP C H N M w K S Y I) : I 97 1 = nI C := h.mc.1
theorem SetP.m2 (h : SetP C H N M w K S Y I) : I 97 2 = nI H := h.mc.2
theorem SetP.m3 (h : SetP C H N M w K S Y I) : I 97 3 = nI N := h.2.2.2.2.2.2.2.2.2.1.2.2.1
theorem SetP.up0 (h : SetP C H N M w K S Y I) (v : Int32) : SetP C H N M w K S Y (up I 97 0 v) := h.keep ((Keep.refl I).up0 v)
/-- a deal of the class, by its number -/
theorem SetP.cd (h : SetP C H N M w K S Y I) {i a : Nat} (hi : i < 2147483648) (ha : a < H) {R : Type} (F : (Nat → Nat → Int32) → Option R) : ∃ I1, ((f_51 (nI i) I).bind fun q3 => (f_52 (nI i) I).bind fun q4 => (f_3 q3 q4 I).bind fun q5 => (f_53 (nI i) (nI a) q5).bind fun q6 => (f_4 q6 (nI a) (nI a) q5).bind F) = F I1 ∧ Keep I I1 ∧ DK C H (K (i % max N 1)) (S (i % max N 1)) I1 ∧ SS H (bef (ct C H (K (i % max N 1)) C) (ord a a (Y (i % max N 1) a) H)) I1 := by
  obtain ⟨e1, hl⟩ := h.f51 hi
  obtain ⟨I1, r1, r2, r3⟩ := f3_s (k := K (i % max N 1)) (s := S (i % max N 1)) h.dt
  have k1 := Keep.f3 r3 h.dt r2
  have h1 := h.keep k1
  obtain ⟨I2, t1, t2, t3, t4⟩ := f4_s h.ch (h.k3 hl) ha ha (h.yl hl ha) r2
  refine ⟨I2, ?_, k1.trans (Keep.fr t4 (by decide)), t3, t2⟩
  rw [e1, h.f52 hi, Option.bind_some, Option.bind_some, r1, Option.bind_some, h1.f53 hi ha, Option.bind_some, t1, Option.bind_some]
/-- a deal of the model, by its number -/
theorem SetP.md (h : SetP C H N M w K S Y I) {i a : Nat} (hi : i < 2147483648) (ha : a < H) {R : Type} (F : (Nat → Nat → Int32) → Option R) : ∃ I1, ((f_173 (nI i) I).bind fun q5 => (f_174 (nI i) I).bind fun q6 => (f_167 q5 q6 I).bind fun q7 => (f_175 (nI i) q7).bind fun q8 => (f_172 q8 (nI a) q7).bind fun q9 => (f_168 (nI a) (nI a) q9.1 q9.2).bind F) = F I1 ∧ Keep I I1 ∧ I1 97 = I 97 ∧ MD C H (K (i % max N 1)) (S (i % max N 1)) I1 ∧ SM H (bef (ct C H (K (i % max N 1)) C) (ord a a (Y (i % max N 1) a) H)) I1 := by
  obtain ⟨e1, hl⟩ := h.f51 hi
  obtain ⟨I1, r1, r2, r3⟩ := f167_s h.ch (h.k3 hl) (h.s2 hl) h.mc
  have k1 : Keep I I1 := Keep.fr r3 (by decide)
  have h1 := h.keep k1
  obtain ⟨I2, s1, s2⟩ := h1.f172 hl ha (r2.2.2.2 a ha)
  have k2 : Keep I1 I2 := Keep.fr s2 (by decide)
  obtain ⟨I3, t1, t2, t3, t4⟩ := f168_s h.ch ha ha (h.yl hl ha) (r2.fr s2 (by decide) (by decide) (by decide) (by decide))
  refine ⟨I3, ?_, (k1.trans k2).trans (Keep.fr t4 (by decide)), by rw [t4 97 (by decide), s2 97 (by decide), r3 97 (by decide)], t3, t2⟩
  rw [h.f173 hi, h.f174 hi, Option.bind_some, Option.bind_some, r1, Option.bind_some, h1.f175 hi, Option.bind_some, s1, Option.bind_some, t1, Option.bind_some]
theorem goes_s (h : SetP C H N M w K S Y I) (x1 x2 x3 : Int32) : ∃ q I1 b I2, f_93 x1 x2 x3 I = some (q, I1) ∧ Keep I I1 ∧ f_180 x1 x2 x3 I1 = some (b, I2) ∧ Keep I1 I2 ∧ OKq cdN q b (I2 97 0) := by
  obtain ⟨c1, c2, c3, c4⟩ := h.ch
  have kk : ∀ v, Keep I (up (up I 97 0 (nI 0)) 97 0 v) := fun v => ((Keep.refl I).up0 _).up0 v
  have h0 := h.up0 (nI 0)
  have z0 : (up I 97 0 (nI 0)) 97 0 = nI 0 := up_at
  have bad : ∀ I' : Nat → Nat → Int32, I' 97 0 = nI 1 → OKq cdN (.inr 1) (0 : Int32) (I' 97 0) := fun I' e => ⟨e, by decide, by decide⟩
  rcases ix x1 C (by omega) with ⟨p, hp', rfl⟩ | o1
  · by_cases o2 : ¬ x2 < nI 0
    · obtain ⟨i, hi0, rfl⟩ := nI_of o2
      have hi : i < 2147483648 := by omega
      rcases ix x3 H (by omega) with ⟨a, ha, rfl⟩ | o3
      · obtain ⟨I1, r1, r2, r3, r4⟩ := h.cd (i := i) (by omega) ha (fun q7 => (f_10 (nI p) q7).bind fun q8 => some ((Sum.inl q8 : Int32 ⊕ Nat), q7))
        have h1 := h.keep r2
        obtain ⟨e1, hl⟩ := h.f51 (i := i) (by omega)
        obtain ⟨I2, t1, t2, t5, t3, t4⟩ := (h1.up0 (nI 0)).md (i := i) (by omega) ha (fun q10 => (f_170 (nI p) q10).bind fun q11 => some (q11, q10))
        have g1 : f_10 (nI p) I1 = some (nI (np C H (K (i % max N 1)) (S (i % max N 1)) (Y (i % max N 1) a) a a p)) := f10_s h.ch (h.k3 hl) (h.s2 hl) r3 r4 hp'
        have g2 : f_170 (nI p) I2 = some (nI (np C H (K (i % max N 1)) (S (i % max N 1)) (Y (i % max N 1) a) a a p)) := f170_s h.ch t3 t4 hp'
        refine ⟨.inl (nI (np C H (K (i % max N 1)) (S (i % max N 1)) (Y (i % max N 1) a) a a p)), I1, nI (np C H (K (i % max N 1)) (S (i % max N 1)) (Y (i % max N 1) a) a a p), I2, ?_, r2, ?_, ((Keep.refl I1).up0 _).trans t2, ?_⟩
        · unfold f_93
          simp only [lits, f56_y h.i4 (by omega) hp', f57_y h.i5 (by omega) ha, Option.bind_some, e10, if_false, n0N hi]
          rw [r1, g1]
          rfl
        · unfold f_180 lb_180_2
          have m1 : (up I1 97 0 (nI 0)) 97 1 = nI C := (h1.up0 (nI 0)).m1
          have m2 : (up I1 97 0 (nI 0)) 97 2 = nI H := (h1.up0 (nI 0)).m2
          simp only [lits, f176_y up_at m1 (by omega) hp', f132_y (I := up I1 97 0 (nI 0)) up_at, f177_y up_at m2 (by omega) ha, Option.bind_some, e10, if_false, n0N hi]
          rw [t1, g2]
          rfl
        · rw [t5, up_at]
          exact ⟨rfl, rfl⟩
      · refine ⟨.inr 1, I, 0, up (up I 97 0 (nI 0)) 97 0 (nI 1), ?_, Keep.refl I, ?_, kk (nI 1), bad _ up_at⟩
        · unfold f_93 lb_93_1
          simp only [lits, f56_y h.i4 (by omega) hp', f57_n h.i5 (by omega) (by omega) o3, Option.bind_some, e10, if_false, n0N hi, if_true]
        · unfold f_180 lb_180_2 lb_180_3
          simp only [lits, f176_y z0 h0.m1 (by omega) hp', f132_y z0, f177_n (w := 1) z0 h0.m2 (by decide) (by decide) o3, Option.bind_some, e10, if_false, n0N hi, if_true]
    · have o2' := Decidable.not_not.mp o2
      refine ⟨.inr 1, I, 0, up (up I 97 0 (nI 0)) 97 0 (nI 1), ?_, Keep.refl I, ?_, kk (nI 1), bad _ up_at⟩
      · unfold f_93 lb_93_1
        simp only [lits, f56_y h.i4 (by omega) hp', Option.bind_some, e10, if_false, o2', if_true]
      · unfold f_180 lb_180_2 lb_180_3
        simp only [lits, f176_y z0 h0.m1 (by omega) hp', f132_n (w := 1) z0 (by decide) (by decide), Option.bind_some, e10, if_false, o2', if_true]
  · refine ⟨.inr 1, I, 0, up (up I 97 0 (nI 0)) 97 0 (nI 1), ?_, Keep.refl I, ?_, kk (nI 1), bad _ up_at⟩
    · unfold f_93 lb_93_1
      simp only [lits, f56_n h.i4 (by omega) (by omega) o1, Option.bind_some, if_true]
    · unfold f_180 lb_180_3
      simp only [lits, f176_n z0 h0.m1 o1, Option.bind_some, if_true]
end GO
