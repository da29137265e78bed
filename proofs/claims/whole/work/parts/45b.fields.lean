theorem vn45 {c a : Nat} (h : c = 45) (h2 : 45 ≠ a) : c ≠ a := fun e => h2 (h.symm.trans e)
theorem fg_161 {M : eM} {c j : Nat} (hfor : c = 45) {a : Int} {b : Int} {x : Int × eM} (hx : fn_161 a b M = some x) (hc : j ∉ ([2] : List Nat)) : ((x).2) c j = M c j := by
  obtain ⟨v, hK⟩ : ∃ v, ((x).2) c j = v := ⟨_, rfl⟩
  rw [hK]
  refine Eq.symm ?_
  have hx := Option.some.inj hx
  subst hx
  exact ((eg_u_nj (fun z => vne hc (a := 2) (by decide) z.2)).trans rfl).symm.trans hK
theorem fg_163_107 {M : eM} {c j : Nat} (hfor : c = 45) {v : Int} {x1 : Int} {x2 : Int} {x3 : Int} {x4 : Int} {x : Int × eM} (hc : j ∉ ([2, 16, 21, 22] : List Nat)) (hx : fn_163_107 x1 x2 x3 x4 M = some x) (hK : (fun (x : Int × eM) => ((x).2) c j = v) x) : M c j = v := by
  obtain ⟨_, hx⟩ := vb_if hx
  have hx := Option.some.inj hx
  subst hx
  exact ((eg_u_nj (fun z => vne hc (a := 16) (by decide) z.2)).trans ((congrFun (eg_u_ne (vn45 hfor (a := 55) (by decide))) j).trans ((congrFun (eg_u_ne (vn45 hfor (a := 52) (by decide))) j).trans rfl))).symm.trans hK
theorem fg_163_97 {M : eM} {c j : Nat} (hfor : c = 45) {v : Int} {x1 : Int} {x2 : Int} {x3 : Int} {x4 : Int} {x5 : Int} {x : Int × eM} (hc : j ∉ ([2, 16, 21, 22] : List Nat)) (hx : fn_163_97 x1 x2 x3 x4 x5 M = some x) (hK : (fun (x : Int × eM) => ((x).2) c j = v) x) : M c j = v := by
  refine vb_ite hx (fun _ hx => ?_) (fun _ hx => ?_)
  · refine vb_ite hx (fun _ hx => ?_) (fun _ hx => ?_)
    · have hx := Option.some.inj hx
      subst hx
      exact ((eg_u_nj (fun z => vne hc (a := 16) (by decide) z.2)).trans ((eg_u_nj (fun z => vne hc (a := 22) (by decide) z.2)).trans rfl)).symm.trans hK
    · have hx := Option.some.inj hx
      subst hx
      exact ((eg_u_nj (fun z => vne hc (a := 16) (by decide) z.2)).trans ((eg_u_nj (fun z => vne hc (a := 22) (by decide) z.2)).trans ((eg_u_nj (fun z => vne hc (a := 21) (by decide) z.2)).trans rfl))).symm.trans hK
  · refine vb_ite hx (fun _ hx => ?_) (fun _ hx => ?_)
    · have hz := fg_163_107 hfor hc hx hK
      exact (Eq.refl _).symm.trans hz
    · obtain ⟨_, hx⟩ := vb_if hx
      have hz := fg_163_107 hfor hc hx hK
      exact ((congrFun (eg_u_ne (vn45 hfor (a := 51) (by decide))) j).trans rfl).symm.trans hz
theorem fg_163_82 {M : eM} {c j : Nat} (hfor : c = 45) {v : Int} {x1 : Int} {x2 : Int} {x3 : Int} {x4 : Int} {y0 : Int} {x : Int × eM} (hc : j ∉ ([2, 16, 21, 22] : List Nat)) (hx : fn_163_82 x1 x2 x3 x4 y0 M = some x) (hK : (fun (x : Int × eM) => ((x).2) c j = v) x) : M c j = v := by
  obtain ⟨_, hx⟩ := vb_if hx
  refine vb_ite hx (fun _ hx => ?_) (fun _ hx => ?_)
  · have hz := fg_163_97 hfor hc hx hK
    exact ((congrFun (eg_u_ne (vn45 hfor (a := 54) (by decide))) j).trans rfl).symm.trans hz
  · obtain ⟨_, hx⟩ := vb_if hx
    have hz := fg_163_97 hfor hc hx hK
    exact ((congrFun (eg_u_ne (vn45 hfor (a := 53) (by decide))) j).trans ((congrFun (eg_u_ne (vn45 hfor (a := 54) (by decide))) j).trans rfl)).symm.trans hz
theorem fg_163_72 {M : eM} {c j : Nat} (hfor : c = 45) {v : Int} {x1 : Int} {x2 : Int} {x3 : Int} {y0 : Int} {x : Int × eM} (hc : j ∉ ([2, 16, 21, 22] : List Nat)) (hx : fn_163_72 x1 x2 x3 y0 M = some x) (hK : (fun (x : Int × eM) => ((x).2) c j = v) x) : M c j = v := by
  refine vb_ite hx (fun _ hx => ?_) (fun _ hx => ?_)
  · obtain ⟨_, hx⟩ := vb_if hx
    have hz := fg_163_82 hfor hc hx hK
    exact (Eq.refl _).symm.trans hz
  · have hz := fg_163_82 hfor hc hx hK
    exact (Eq.refl _).symm.trans hz
theorem fg_163 {M : eM} {c j : Nat} (hfor : c = 45) {a : Int} {b : Int} {e : Int} {x : Int × eM} (hx : fn_163 a b e M = some x) (hc : j ∉ ([2, 16, 21, 22] : List Nat)) : ((x).2) c j = M c j := by
  obtain ⟨v, hK⟩ : ∃ v, ((x).2) c j = v := ⟨_, rfl⟩
  rw [hK]
  refine Eq.symm ?_
  refine vb_ite hx (fun _ hx => ?_) (fun _ hx => ?_)
  · obtain ⟨r3, h2, hx⟩ := vb_bind hx
    have hx := Option.some.inj hx
    subst hx
    exact ((fg_161 hfor h2 (vsub hc (by decide))).trans rfl).symm.trans hK
  · refine vb_ite hx (fun _ hx => ?_) (fun _ hx => ?_)
    · obtain ⟨_, hx⟩ := vb_if hx
      refine vb_ite hx (fun _ hx => ?_) (fun _ hx => ?_)
      · have hz := fg_163_72 hfor hc hx hK
        exact ((congrFun (eg_u_ne (vn45 hfor (a := 56) (by decide))) j).trans ((congrFun (eg_u_ne (vn45 hfor (a := 55) (by decide))) j).trans ((congrFun (eg_u_ne (vn45 hfor (a := 53) (by decide))) j).trans ((congrFun (eg_u_ne (vn45 hfor (a := 52) (by decide))) j).trans ((congrFun (eg_u_ne (vn45 hfor (a := 51) (by decide))) j).trans ((congrFun (eg_u_ne (vn45 hfor (a := 50) (by decide))) j).trans ((congrFun (eg_u_ne (vn45 hfor (a := 49) (by decide))) j).trans rfl))))))).symm.trans hz
      · obtain ⟨_, hx⟩ := vb_if hx
        have hz := fg_163_72 hfor hc hx hK
        exact ((congrFun (eg_u_ne (vn45 hfor (a := 56) (by decide))) j).trans ((congrFun (eg_u_ne (vn45 hfor (a := 55) (by decide))) j).trans ((congrFun (eg_u_ne (vn45 hfor (a := 53) (by decide))) j).trans ((congrFun (eg_u_ne (vn45 hfor (a := 52) (by decide))) j).trans ((congrFun (eg_u_ne (vn45 hfor (a := 51) (by decide))) j).trans ((congrFun (eg_u_ne (vn45 hfor (a := 50) (by decide))) j).trans ((congrFun (eg_u_ne (vn45 hfor (a := 49) (by decide))) j).trans rfl))))))).symm.trans hz
    · obtain ⟨r28, h27, hx⟩ := vb_bind hx
      have hx := Option.some.inj hx
      subst hx
      exact ((fg_161 hfor h27 (vsub hc (by decide))).trans rfl).symm.trans hK
theorem fg_162 {M : eM} {c j : Nat} (hfor : c = 45) {a : Int} {x : Int × eM} (hx : fn_162 a M = some x) (hc : j ∉ ([2, 3, 16, 18, 21, 22] : List Nat)) : ((x).2) c j = M c j := by
  obtain ⟨v, hK⟩ : ∃ v, ((x).2) c j = v := ⟨_, rfl⟩
  rw [hK]
  refine Eq.symm ?_
  refine vb_ite hx (fun _ hx => ?_) (fun _ hx => ?_)
  · obtain ⟨r3, h2, hx⟩ := vb_bind hx
    refine vb_ite hx (fun _ hx => ?_) (fun _ hx => ?_)
    · obtain ⟨_, hx⟩ := vb_if hx
      obtain ⟨_, hx⟩ := vb_if hx
      refine vb_ite hx (fun _ hx => ?_) (fun _ hx => ?_)
      · have hx := Option.some.inj hx
        subst hx
        exact ((eg_u_nj (fun z => vne hc (a := 3) (by decide) z.2)).trans ((eg_u_nj (fun z => vne hc (a := 18) (by decide) z.2)).trans ((congrFun (eg_u_ne (vn45 hfor (a := 58) (by decide))) j).trans ((congrFun (eg_u_ne (vn45 hfor (a := 57) (by decide))) j).trans ((fg_163 hfor h2 (vsub hc (by decide))).trans rfl))))).symm.trans hK
      · obtain ⟨r10, h9, hx⟩ := vb_bind hx
        have hx := Option.some.inj hx
        subst hx
        exact ((eg_u_nj (fun z => vne hc (a := 3) (by decide) z.2)).trans ((fg_163 hfor h9 (vsub hc (by decide))).trans ((eg_u_nj (fun z => vne hc (a := 18) (by decide) z.2)).trans ((congrFun (eg_u_ne (vn45 hfor (a := 58) (by decide))) j).trans ((congrFun (eg_u_ne (vn45 hfor (a := 57) (by decide))) j).trans ((fg_163 hfor h2 (vsub hc (by decide))).trans rfl)))))).symm.trans hK
    · have hx := Option.some.inj hx
      subst hx
      exact ((fg_163 hfor h2 (vsub hc (by decide))).trans rfl).symm.trans hK
  · obtain ⟨r13, h12, hx⟩ := vb_bind hx
    have hx := Option.some.inj hx
    subst hx
    exact ((fg_161 hfor h12 (vsub hc (by decide))).trans rfl).symm.trans hK
theorem fg_167_0 {c j : Nat} (hfor : c = 45) {v : Int} {s : eM} {x : eM} (hc : j ∉ ([18] : List Nat)) (hx : lp (fn_167_0) s = some x) (hK : (fun (x : eM) => x c j = v) x) : s c j = v := by
  refine lp_sound (P := (fun (s : eM) => s c j = v)) (K := (fun (x : eM) => x c j = v)) hx hK ?_
  intro s x hx hK
  refine vb_ite hx (fun _ hx => ?_) (fun _ hx => ?_)
  · have hx := Option.some.inj hx
    subst hx
    exact (Eq.refl _).symm.trans hK
  · obtain ⟨_, hx⟩ := vb_if hx
    refine vb_ite hx (fun _ hx => ?_) (fun _ hx => ?_)
    · have hx := Option.some.inj hx
      subst hx
      exact (Eq.refl _).symm.trans hK
    · obtain ⟨_, hx⟩ := vb_if hx
      refine vb_ite hx (fun _ hx => ?_) (fun _ hx => ?_)
      · have hx := Option.some.inj hx
        subst hx
        exact (Eq.refl _).symm.trans hK
      · have hx := Option.some.inj hx
        subst hx
        exact ((eg_u_nj (fun z => vne hc (a := 18) (by decide) z.2)).trans rfl).symm.trans hK
theorem fg_167 {M : eM} {c j : Nat} (hfor : c = 45) {x : eM} (hx : fn_167 M = some x) (hc : j ∉ ([18] : List Nat)) : x c j = M c j := by
  obtain ⟨v, hK⟩ : ∃ v, x c j = v := ⟨_, rfl⟩
  rw [hK]
  refine Eq.symm ?_
  have hz := fg_167_0 hfor hc hx hK
  exact (Eq.refl _).symm.trans hz
theorem fg_164_24 {M : eM} {c j : Nat} (hfor : c = 45) {v : Int} {x1 : Int} {x2 : Int} {x : Int × eM} (hc : j ∉ ([2, 3, 16, 18, 21, 22] : List Nat)) (hx : fn_164_24 x1 x2 M = some x) (hK : (fun (x : Int × eM) => ((x).2) c j = v) x) : M c j = v := by
  obtain ⟨r6, h5, hx⟩ := vb_bind hx
  obtain ⟨r9, h8, hx⟩ := vb_bind hx
  refine vb_ite hx (fun _ hx => ?_) (fun _ hx => ?_)
  · refine vb_ite hx (fun _ hx => ?_) (fun _ hx => ?_)
    · obtain ⟨r14, h13, hx⟩ := vb_bind hx
      obtain ⟨m18, h16, hx⟩ := vb_bind hx
      have hx := Option.some.inj hx
      subst hx
      exact ((fg_167 hfor h16 (vsub hc (by decide))).trans ((fg_163 hfor h13 (vsub hc (by decide))).trans ((eg_u_nj (fun z => vne hc (a := 3) (by decide) z.2)).trans rfl))).symm.trans hK
    · obtain ⟨r20, h19, hx⟩ := vb_bind hx
      obtain ⟨m24, h22, hx⟩ := vb_bind hx
      have hx := Option.some.inj hx
      subst hx
      exact ((fg_167 hfor h22 (vsub hc (by decide))).trans ((fg_163 hfor h19 (vsub hc (by decide))).trans ((eg_u_nj (fun z => vne hc (a := 3) (by decide) z.2)).trans rfl))).symm.trans hK
  · obtain ⟨r26, h25, hx⟩ := vb_bind hx
    have hx := Option.some.inj hx
    subst hx
    exact ((fg_161 hfor h25 (vsub hc (by decide))).trans ((eg_u_nj (fun z => vne hc (a := 3) (by decide) z.2)).trans rfl)).symm.trans hK
theorem fg_164 {M : eM} {c j : Nat} (hfor : c = 45) {x : Int × eM} (hx : fn_164 M = some x) (hc : j ∉ ([2, 3, 16, 18, 21, 22] : List Nat)) : ((x).2) c j = M c j := by
  obtain ⟨v, hK⟩ : ∃ v, ((x).2) c j = v := ⟨_, rfl⟩
  rw [hK]
  refine Eq.symm ?_
  obtain ⟨r2, h1, hx⟩ := vb_bind hx
  refine vb_ite hx (fun _ hx => ?_) (fun _ hx => ?_)
  · have hz := fg_164_24 hfor hc hx hK
    exact ((eg_u_nj (fun z => vne hc (a := 3) (by decide) z.2)).trans rfl).symm.trans hz
  · refine vb_ite hx (fun _ hx => ?_) (fun _ hx => ?_)
    · have hz := fg_164_24 hfor hc hx hK
      exact ((eg_u_nj (fun z => vne hc (a := 3) (by decide) z.2)).trans rfl).symm.trans hz
    · obtain ⟨r30, h29, hx⟩ := vb_bind hx
      have hx := Option.some.inj hx
      subst hx
      exact ((fg_161 hfor h29 (vsub hc (by decide))).trans ((eg_u_nj (fun z => vne hc (a := 3) (by decide) z.2)).trans rfl)).symm.trans hK
theorem fg_169_70 {c j : Nat} (hfor : c = 45) {v : Int} {x1 : Int} {x2 : Int} {x3 : Int} {s : Int × eM} {x : Int × eM} (hc : j ∉ ([7] : List Nat)) (hx : lp (fun z => fn_169_70 x1 x2 x3 z.1 z.2) s = some x) (hK : (fun (x : Int × eM) => ((x).2) c j = v) x) : s.2 c j = v := by
  refine lp_sound (P := (fun (s : Int × eM) => s.2 c j = v)) (K := (fun (x : Int × eM) => ((x).2) c j = v)) hx hK ?_
  intro s x hx hK
  obtain ⟨s1, s2⟩ := s
  refine vb_ite hx (fun _ hx => ?_) (fun _ hx => ?_)
  · obtain ⟨_, hx⟩ := vb_if hx
    obtain ⟨_, hx⟩ := vb_if hx
    have hx := Option.some.inj hx
    subst hx
    exact ((eg_u_nj (fun z => vne hc (a := 7) (by decide) z.2)).trans ((congrFun (eg_u_ne (vn45 hfor (a := 48) (by decide))) j).trans rfl)).symm.trans hK
  · obtain ⟨_, hx⟩ := vb_if hx
    obtain ⟨_, hx⟩ := vb_if hx
    obtain ⟨_, hx⟩ := vb_if hx
    have hx := Option.some.inj hx
    subst hx
    exact ((congrFun (eg_u_ne (vn45 hfor (a := 47) (by decide))) j).trans rfl).symm.trans hK
theorem fg_169_29 {M : eM} {c j : Nat} (hfor : c = 45) {v : Int} {x1 : Int} {x2 : Int} {x3 : Int} {x4 : Int} {s : Int × Int} {x : (Int) ⊕ (Int × eM)} (hc : j ∉ ([7] : List Nat)) (hx : lp (fun z => fn_169_29 x1 x2 x3 x4 M z.1 z.2) s = some x) (hK : (eK (fun (s : Int) => M c j = v) (fun (x : Int × eM) => ((x).2) c j = v)) x) : M c j = v := by
  refine lp_sound (P := (fun (s : Int × Int) => M c j = v)) (K := (eK (fun (s : Int) => M c j = v) (fun (x : Int × eM) => ((x).2) c j = v))) hx hK ?_
  intro s x hx hK
  obtain ⟨s1, s2⟩ := s
  refine vb_ite hx (fun _ hx => ?_) (fun _ hx => ?_)
  · refine vb_ite hx (fun _ hx => ?_) (fun _ hx => ?_)
    · have hx := Option.some.inj hx
      subst hx
      exact hK
    · have hx := Option.some.inj hx
      subst hx
      exact (Eq.refl _).symm.trans hK
  · refine vb_ite hx (fun _ hx => ?_) (fun _ hx => ?_)
    · have hx := Option.some.inj hx
      subst hx
      exact hK
    · obtain ⟨_, hx⟩ := vb_if hx
      obtain ⟨_, hx⟩ := vb_if hx
      obtain ⟨_, hx⟩ := vb_if hx
      refine vb_ite hx (fun _ hx => ?_) (fun _ hx => ?_)
      · have hx := Option.some.inj hx
        subst hx
        exact hK
      · have hx := Option.some.inj hx
        subst hx
        exact hK
theorem fg_169_6 {M : eM} {c j : Nat} (hfor : c = 45) {v : Int} {x1 : Int} {x2 : Int} {x3 : Int} {s : Int} {x : Int × eM} (hc : j ∉ ([7] : List Nat)) (hx : lp (fn_169_6 x1 x2 x3 M) s = some x) (hK : (fun (x : Int × eM) => ((x).2) c j = v) x) : M c j = v := by
  refine lp_sound (P := (fun (s : Int) => M c j = v)) (K := (fun (x : Int × eM) => ((x).2) c j = v)) hx hK ?_
  intro s x hx hK
  refine vb_ite hx (fun _ hx => ?_) (fun _ hx => ?_)
  · refine vb_ite hx (fun _ hx => ?_) (fun _ hx => ?_)
    · obtain ⟨x, hy, e9⟩ := vb_map hx
      clear hx
      subst e9
      have hx := hy
      clear hy
      have hz := fg_169_70 hfor hc hx hK
      exact (Eq.refl _).symm.trans hz
    · have hx := Option.some.inj hx
      subst hx
      exact (Eq.refl _).symm.trans hK
  · obtain ⟨_, hx⟩ := vb_if hx
    obtain ⟨_, hx⟩ := vb_if hx
    refine vb_ite hx (fun _ hx => ?_) (fun _ hx => ?_)
    · have hz := fg_169_29 hfor hc hx hK
      exact (Eq.refl _).symm.trans hz
    · have hz := fg_169_29 hfor hc hx hK
      exact (Eq.refl _).symm.trans hz
theorem fg_169 {M : eM} {c j : Nat} (hfor : c = 45) {a : Int} {b : Int} {x : Int × eM} (hx : fn_169 a b M = some x) (hc : j ∉ ([7] : List Nat)) : ((x).2) c j = M c j := by
  obtain ⟨v, hK⟩ : ∃ v, ((x).2) c j = v := ⟨_, rfl⟩
  rw [hK]
  refine Eq.symm ?_
  have hz := fg_169_6 hfor hc hx hK
  exact (Eq.refl _).symm.trans hz
theorem fg_168_150 {M : eM} {c j : Nat} (hfor : c = 45) {v : Int} {x1 : Int} {x7 : Int} {y0 : Int} {x : Int × eM} (hc : j ∉ ([2, 3, 7, 16, 18, 21, 22] : List Nat)) (hx : fn_168_150 x1 x7 y0 M = some x) (hK : (fun (x : Int × eM) => ((x).2) c j = v) x) : M c j = v := by
  refine vb_ite hx (fun _ hx => ?_) (fun _ hx => ?_)
  · refine vb_ite hx (fun _ hx => ?_) (fun _ hx => ?_)
    · obtain ⟨m29, h27, hx⟩ := vb_bind hx
      have hx := Option.some.inj hx
      subst hx
      exact ((fg_167 hfor h27 (vsub hc (by decide))).trans rfl).symm.trans hK
    · obtain ⟨_, hx⟩ := vb_if hx
      obtain ⟨m33, h31, hx⟩ := vb_bind hx
      have hx := Option.some.inj hx
      subst hx
      exact ((fg_167 hfor h31 (vsub hc (by decide))).trans ((congrFun (eg_u_ne (vn45 hfor (a := 50) (by decide))) j).trans rfl)).symm.trans hK
  · obtain ⟨r35, h34, hx⟩ := vb_bind hx
    have hx := Option.some.inj hx
    subst hx
    exact ((fg_161 hfor h34 (vsub hc (by decide))).trans rfl).symm.trans hK
theorem fg_168_135 {M : eM} {c j : Nat} (hfor : c = 45) {v : Int} {x1 : Int} {x : Int × eM} (hc : j ∉ ([2, 3, 7, 16, 18, 21, 22] : List Nat)) (hx : fn_168_135 x1 M = some x) (hK : (fun (x : Int × eM) => ((x).2) c j = v) x) : M c j = v := by
  obtain ⟨r19, h18, hx⟩ := vb_bind hx
  refine vb_ite hx (fun _ hx => ?_) (fun _ hx => ?_)
  · obtain ⟨r23, h22, hx⟩ := vb_bind hx
    have hz := fg_168_150 hfor hc hx hK
    exact ((fg_169 hfor h22 (vsub hc (by decide))).trans ((fg_163 hfor h18 (vsub hc (by decide))).trans rfl)).symm.trans hz
  · have hz := fg_168_150 hfor hc hx hK
    exact ((fg_163 hfor h18 (vsub hc (by decide))).trans rfl).symm.trans hz
theorem fg_168_93 {M : eM} {c j : Nat} (hfor : c = 45) {v : Int} {x1 : Int} {y0 : Int} {x : Int × eM} (hc : j ∉ ([2, 3, 7, 16, 18, 21, 22] : List Nat)) (hx : fn_168_93 x1 y0 M = some x) (hK : (fun (x : Int × eM) => ((x).2) c j = v) x) : M c j = v := by
  refine vb_ite hx (fun _ hx => ?_) (fun _ hx => ?_)
  · obtain ⟨r45, h44, hx⟩ := vb_bind hx
    have hx := Option.some.inj hx
    subst hx
    exact ((fg_161 hfor h44 (vsub hc (by decide))).trans rfl).symm.trans hK
  · refine vb_ite hx (fun _ hx => ?_) (fun _ hx => ?_)
    · obtain ⟨r49, h48, hx⟩ := vb_bind hx
      obtain ⟨m53, h51, hx⟩ := vb_bind hx
      have hx := Option.some.inj hx
      subst hx
      exact ((fg_167 hfor h51 (vsub hc (by decide))).trans ((fg_163 hfor h48 (vsub hc (by decide))).trans rfl)).symm.trans hK
    · obtain ⟨r55, h54, hx⟩ := vb_bind hx
      have hx := Option.some.inj hx
      subst hx
      exact ((fg_161 hfor h54 (vsub hc (by decide))).trans rfl).symm.trans hK
theorem fg_168_61 {M : eM} {c j : Nat} (hfor : c = 45) {v : Int} {x1 : Int} {x2 : Int} {x3 : Int} {x5 : Int} {x7 : Int} {y0 : Int} {x : (Int × Int × Int) ⊕ (Int × eM)} (hc : j ∉ ([2, 3, 7, 16, 18, 21, 22] : List Nat)) (hx : fn_168_61 x1 x2 x3 x5 x7 y0 M = some x) (hK : (eK (fun (s : Int × Int × Int) => M c j = v) (fun (x : Int × eM) => ((x).2) c j = v)) x) : M c j = v := by
  refine vb_ite hx (fun _ hx => ?_) (fun _ hx => ?_)
  · have hx := Option.some.inj hx
    subst hx
    exact hK
  · refine vb_ite hx (fun _ hx => ?_) (fun _ hx => ?_)
    · have hx := Option.some.inj hx
      subst hx
      exact hK
    · obtain ⟨_, hx⟩ := vb_if hx
      have hx := Option.some.inj hx
      subst hx
      exact hK
theorem fg_168_60 {M : eM} {c j : Nat} (hfor : c = 45) {v : Int} {x1 : Int} {x2 : Int} {x3 : Int} {x5 : Int} {x7 : Int} {x : (Int × Int × Int) ⊕ (Int × eM)} (hc : j ∉ ([2, 3, 7, 16, 18, 21, 22] : List Nat)) (hx : fn_168_60 x1 x2 x3 x5 x7 M = some x) (hK : (eK (fun (s : Int × Int × Int) => M c j = v) (fun (x : Int × eM) => ((x).2) c j = v)) x) : M c j = v := by
  have hz := fg_168_61 hfor hc hx hK
  exact (Eq.refl _).symm.trans hz
theorem fg_168_40 {M : eM} {c j : Nat} (hfor : c = 45) {v : Int} {x1 : Int} {x2 : Int} {x3 : Int} {s : Int × Int × Int} {x : Int × eM} (hc : j ∉ ([2, 3, 7, 16, 18, 21, 22] : List Nat)) (hx : lp (fun z => fn_168_40 x1 x2 x3 M z.1 z.2.1 z.2.2) s = some x) (hK : (fun (x : Int × eM) => ((x).2) c j = v) x) : M c j = v := by
  refine lp_sound (P := (fun (s : Int × Int × Int) => M c j = v)) (K := (fun (x : Int × eM) => ((x).2) c j = v)) hx hK ?_
  intro s x hx hK
  obtain ⟨s1, s2, s3⟩ := s
  refine vb_ite hx (fun _ hx => ?_) (fun _ hx => ?_)
  · refine vb_ite hx (fun _ hx => ?_) (fun _ hx => ?_)
    · refine vb_ite hx (fun _ hx => ?_) (fun _ hx => ?_)
      · obtain ⟨r14, h13, hx⟩ := vb_bind hx
        have hx := Option.some.inj hx
        subst hx
        exact ((fg_161 hfor h13 (vsub hc (by decide))).trans rfl).symm.trans hK
      · obtain ⟨_, hx⟩ := vb_if hx
        refine vb_ite hx (fun _ hx => ?_) (fun _ hx => ?_)
        · obtain ⟨x, hy, e9⟩ := vb_map hx
          clear hx
          subst e9
          have hx := hy
          clear hy
          have hz := fg_168_135 hfor hc hx hK
          exact (Eq.refl _).symm.trans hz
        · refine vb_ite hx (fun _ hx => ?_) (fun _ hx => ?_)
          · obtain ⟨x, hy, e9⟩ := vb_map hx
            clear hx
            subst e9
            have hx := hy
            clear hy
            have hz := fg_168_135 hfor hc hx hK
            exact (Eq.refl _).symm.trans hz
          · obtain ⟨r40, h39, hx⟩ := vb_bind hx
            have hx := Option.some.inj hx
            subst hx
            exact ((fg_161 hfor h39 (vsub hc (by decide))).trans rfl).symm.trans hK
    · refine vb_ite hx (fun _ hx => ?_) (fun _ hx => ?_)
      · obtain ⟨x, hy, e9⟩ := vb_map hx
        clear hx
        subst e9
        have hx := hy
        clear hy
        have hz := fg_168_93 hfor hc hx hK
        exact (Eq.refl _).symm.trans hz
      · obtain ⟨x, hy, e9⟩ := vb_map hx
        clear hx
        subst e9
        have hx := hy
        clear hy
        have hz := fg_168_93 hfor hc hx hK
        exact (Eq.refl _).symm.trans hz
  · refine vb_ite hx (fun _ hx => ?_) (fun _ hx => ?_)
    · have hz := fg_168_60 hfor hc hx hK
      exact (Eq.refl _).symm.trans hz
    · obtain ⟨_, hx⟩ := vb_if hx
      refine vb_ite hx (fun _ hx => ?_) (fun _ hx => ?_)
      · have hz := fg_168_60 hfor hc hx hK
        exact (Eq.refl _).symm.trans hz
      · refine vb_ite hx (fun _ hx => ?_) (fun _ hx => ?_)
        · have hz := fg_168_60 hfor hc hx hK
          exact (Eq.refl _).symm.trans hz
        · have hz := fg_168_61 hfor hc hx hK
          exact (Eq.refl _).symm.trans hz
theorem fg_168_3 {c j : Nat} (hfor : c = 45) {v : Int} {x1 : Int} {s : eM} {x : Int × eM} (hc : j ∉ ([2, 3, 7, 16, 18, 21, 22] : List Nat)) (hx : lp (fn_168_3 x1) s = some x) (hK : (fun (x : Int × eM) => ((x).2) c j = v) x) : s c j = v := by
  refine lp_sound (P := (fun (s : eM) => s c j = v)) (K := (fun (x : Int × eM) => ((x).2) c j = v)) hx hK ?_
  intro s x hx hK
  obtain ⟨r2, h1, hx⟩ := vb_bind hx
  obtain ⟨r5, h4, hx⟩ := vb_bind hx
  refine vb_ite hx (fun _ hx => ?_) (fun _ hx => ?_)
  · obtain ⟨_, hx⟩ := vb_if hx
    refine vb_ite hx (fun _ hx => ?_) (fun _ hx => ?_)
    · obtain ⟨x, hy, e9⟩ := vb_map hx
      clear hx
      subst e9
      have hx := hy
      clear hy
      have hz := fg_168_40 hfor hc hx hK
      exact (Eq.refl _).symm.trans hz
    · refine vb_ite hx (fun _ hx => ?_) (fun _ hx => ?_)
      · obtain ⟨x, hy, e9⟩ := vb_map hx
        clear hx
        subst e9
        have hx := hy
        clear hy
        have hz := fg_168_40 hfor hc hx hK
        exact (Eq.refl _).symm.trans hz
      · obtain ⟨x, hy, e9⟩ := vb_map hx
        clear hx
        subst e9
        have hx := hy
        clear hy
        have hz := fg_168_40 hfor hc hx hK
        exact (Eq.refl _).symm.trans hz
  · have hx := Option.some.inj hx
    subst hx
    exact ((eg_u_nj (fun z => vne hc (a := 3) (by decide) z.2)).trans rfl).symm.trans hK
theorem fg_168 {M : eM} {c j : Nat} (hfor : c = 45) {x : Int × eM} (hx : fn_168 M = some x) (hc : j ∉ ([2, 3, 7, 16, 18, 21, 22] : List Nat)) : ((x).2) c j = M c j := by
  obtain ⟨v, hK⟩ : ∃ v, ((x).2) c j = v := ⟨_, rfl⟩
  rw [hK]
  refine Eq.symm ?_
  have hz := fg_168_3 hfor hc hx hK
  exact (Eq.refl _).symm.trans hz
theorem fg_159_23 {c j : Nat} (hfor : c = 45) {v : Int} {x1 : Int} {s : eM} {x : Int × eM} (hc : j ∉ ([2, 3, 7, 16, 18, 21, 22] : List Nat)) (hx : lp (fn_159_23 x1) s = some x) (hK : (fun (x : Int × eM) => ((x).2) c j = v) x) : s c j = v := by
  refine lp_sound (P := (fun (s : eM) => s c j = v)) (K := (fun (x : Int × eM) => ((x).2) c j = v)) hx hK ?_
  intro s x hx hK
  refine vb_ite hx (fun _ hx => ?_) (fun _ hx => ?_)
  · have hx := Option.some.inj hx
    subst hx
    exact (Eq.refl _).symm.trans hK
  · obtain ⟨_, hx⟩ := vb_if hx
    refine vb_ite hx (fun _ hx => ?_) (fun _ hx => ?_)
    · have hx := Option.some.inj hx
      subst hx
      exact (Eq.refl _).symm.trans hK
    · obtain ⟨r45, h44, hx⟩ := vb_bind hx
      refine vb_ite hx (fun _ hx => ?_) (fun _ hx => ?_)
      · have hx := Option.some.inj hx
        subst hx
        exact ((eg_u_nj (fun z => vne hc (a := 3) (by decide) z.2)).trans rfl).symm.trans hK
      · obtain ⟨r49, h48, hx⟩ := vb_bind hx
        have hx := Option.some.inj hx
        subst hx
        exact ((fg_161 hfor h48 (vsub hc (by decide))).trans rfl).symm.trans hK
theorem fg_159 {M : eM} {c j : Nat} (hfor : c = 45) {x : Int × eM} (hx : fn_159 M = some x) (hc : j ∉ ([2, 3, 7, 16, 18, 21, 22] : List Nat)) : ((x).2) c j = M c j := by
  obtain ⟨v, hK⟩ : ∃ v, ((x).2) c j = v := ⟨_, rfl⟩
  rw [hK]
  refine Eq.symm ?_
  obtain ⟨_, hx⟩ := vb_if hx
  refine vb_ite hx (fun _ hx => ?_) (fun _ hx => ?_)
  · have hx := Option.some.inj hx
    subst hx
    exact ((eg_u_nj (fun z => vne hc (a := 3) (by decide) z.2)).trans rfl).symm.trans hK
  · refine vb_ite hx (fun _ hx => ?_) (fun _ hx => ?_)
    · refine vb_ite hx (fun _ hx => ?_) (fun _ hx => ?_)
      · refine vb_ite hx (fun _ hx => ?_) (fun _ hx => ?_)
        · refine vb_ite hx (fun _ hx => ?_) (fun _ hx => ?_)
          · refine vb_ite hx (fun _ hx => ?_) (fun _ hx => ?_)
            · obtain ⟨r9, h8, hx⟩ := vb_bind hx
              refine vb_ite hx (fun _ hx => ?_) (fun _ hx => ?_)
              · refine vb_ite hx (fun _ hx => ?_) (fun _ hx => ?_)
                · obtain ⟨r14, h13, hx⟩ := vb_bind hx
                  have hx := Option.some.inj hx
                  subst hx
                  exact ((fg_161 hfor h13 (vsub hc (by decide))).trans rfl).symm.trans hK
                · refine vb_ite hx (fun _ hx => ?_) (fun _ hx => ?_)
                  · obtain ⟨r18, h17, hx⟩ := vb_bind hx
                    have hx := Option.some.inj hx
                    subst hx
                    exact ((fg_161 hfor h17 (vsub hc (by decide))).trans rfl).symm.trans hK
                  · obtain ⟨_, hx⟩ := vb_if hx
                    refine vb_ite hx (fun _ hx => ?_) (fun _ hx => ?_)
                    · obtain ⟨m24, h22, hx⟩ := vb_bind hx
                      have hx := Option.some.inj hx
                      subst hx
                      exact ((fg_167 hfor h22 (vsub hc (by decide))).trans ((eg_u_nj (fun z => vne hc (a := 3) (by decide) z.2)).trans ((eg_u_nj (fun z => vne hc (a := 18) (by decide) z.2)).trans rfl))).symm.trans hK
                    · obtain ⟨r26, h25, hx⟩ := vb_bind hx
                      have hx := Option.some.inj hx
                      subst hx
                      exact ((fg_161 hfor h25 (vsub hc (by decide))).trans rfl).symm.trans hK
              · obtain ⟨r29, h28, hx⟩ := vb_bind hx
                have hx := Option.some.inj hx
                subst hx
                exact ((fg_168 hfor h28 (vsub hc (by decide))).trans rfl).symm.trans hK
            · obtain ⟨r32, h31, hx⟩ := vb_bind hx
              have hx := Option.some.inj hx
              subst hx
              exact ((fg_164 hfor h31 (vsub hc (by decide))).trans rfl).symm.trans hK
          · obtain ⟨r35, h34, hx⟩ := vb_bind hx
            have hx := Option.some.inj hx
            subst hx
            exact ((fg_162 hfor h34 (vsub hc (by decide))).trans rfl).symm.trans hK
        · obtain ⟨r38, h37, hx⟩ := vb_bind hx
          have hx := Option.some.inj hx
          subst hx
          exact ((fg_162 hfor h37 (vsub hc (by decide))).trans rfl).symm.trans hK
      · have hz := fg_159_23 hfor hc hx hK
        exact (Eq.refl _).symm.trans hz
    · have hx := Option.some.inj hx
      subst hx
      exact ((eg_u_nj (fun z => vne hc (a := 3) (by decide) z.2)).trans rfl).symm.trans hK
theorem fg_158_21 {c j : Nat} (hfor : c = 45) {v : Int} {x1 : Int} {s : Int × eM} {x : Int × eM} (hc : j ∉ ([2, 3, 4, 7, 16, 18, 21, 22] : List Nat)) (hx : lp (fun z => fn_158_21 x1 z.1 z.2) s = some x) (hK : (fun (x : Int × eM) => ((x).2) c j = v) x) : s.2 c j = v := by
  refine lp_sound (P := (fun (s : Int × eM) => s.2 c j = v)) (K := (fun (x : Int × eM) => ((x).2) c j = v)) hx hK ?_
  intro s x hx hK
  obtain ⟨s1, s2⟩ := s
  refine vb_ite hx (fun _ hx => ?_) (fun _ hx => ?_)
  · have hx := Option.some.inj hx
    subst hx
    exact (Eq.refl _).symm.trans hK
  · refine vb_ite hx (fun _ hx => ?_) (fun _ hx => ?_)
    · refine vb_ite hx (fun _ hx => ?_) (fun _ hx => ?_)
      · have hx := Option.some.inj hx
        subst hx
        exact (Eq.refl _).symm.trans hK
      · obtain ⟨r5, h4, hx⟩ := vb_bind hx
        have hx := Option.some.inj hx
        subst hx
        exact ((fg_161 hfor h4 (vsub hc (by decide))).trans rfl).symm.trans hK
    · obtain ⟨r8, h7, hx⟩ := vb_bind hx
      have hx := Option.some.inj hx
      subst hx
      exact ((fg_159 hfor h7 (vsub hc (by decide))).trans rfl).symm.trans hK
theorem fg_158 {M : eM} {c j : Nat} (hfor : c = 45) {a : Int} {x : Int × eM} (hx : fn_158 a M = some x) (hc : j ∉ ([2, 3, 4, 7, 16, 18, 21, 22] : List Nat)) : ((x).2) c j = M c j := by
  obtain ⟨v, hK⟩ : ∃ v, ((x).2) c j = v := ⟨_, rfl⟩
  rw [hK]
  refine Eq.symm ?_
  have hz := fg_158_21 hfor hc hx hK
  exact ((eg_u_nj (fun z => vne hc (a := 16) (by decide) z.2)).trans ((eg_u_nj (fun z => vne hc (a := 22) (by decide) z.2)).trans ((eg_u_nj (fun z => vne hc (a := 21) (by decide) z.2)).trans ((eg_u_nj (fun z => vne hc (a := 18) (by decide) z.2)).trans ((eg_u_nj (fun z => vne hc (a := 4) (by decide) z.2)).trans ((eg_u_nj (fun z => vne hc (a := 3) (by decide) z.2)).trans rfl)))))).symm.trans hz
theorem fg_173 {M : eM} {c j : Nat} (hfor : c = 45) {a : Int} {x : Int × eM} (hx : fn_173 a M = some x) (hc : j ∉ ([2] : List Nat)) : ((x).2) c j = M c j := by
  obtain ⟨v, hK⟩ : ∃ v, ((x).2) c j = v := ⟨_, rfl⟩
  rw [hK]
  refine Eq.symm ?_
  obtain ⟨_, hx⟩ := vb_if hx
  obtain ⟨r3, h2, hx⟩ := vb_bind hx
  have hx := Option.some.inj hx
  subst hx
  exact ((fg_161 hfor h2 (vsub hc (by decide))).trans rfl).symm.trans hK
theorem fg_178 {M : eM} {c j : Nat} (hfor : c = 45) {a : Int} {b : Int} {e : Int} {x : eM} (hx : fn_178 a b e M = some x) (hc : j ∉ ([23] : List Nat)) : x c j = M c j := by
  obtain ⟨v, hK⟩ : ∃ v, x c j = v := ⟨_, rfl⟩
  rw [hK]
  refine Eq.symm ?_
  obtain ⟨_, hx⟩ := vb_if hx
  have hx := Option.some.inj hx
  subst hx
  exact ((eg_u_nj (fun z => vne hc (a := 23) (by decide) z.2)).trans ((congrFun (eg_u_ne (vn45 hfor (a := 61) (by decide))) j).trans ((congrFun (eg_u_ne (vn45 hfor (a := 60) (by decide))) j).trans ((congrFun (eg_u_ne (vn45 hfor (a := 59) (by decide))) j).trans rfl)))).symm.trans hK
theorem fg_180_42 {M : eM} {c j : Nat} (hfor : c = 45) {v : Int} {x1 : Int} {x2 : Int} {x3 : Int} {x4 : Int} {x5 : Int} {x6 : Int} {x7 : Int} {y0 : Int} {x : (Int × Int) ⊕ (Int × eM)} (hc : j ∉ ([2] : List Nat)) (hx : fn_180_42 x1 x2 x3 x4 x5 x6 x7 y0 M = some x) (hK : (eK (fun (s : Int × Int) => M c j = v) (fun (x : Int × eM) => ((x).2) c j = v)) x) : M c j = v := by
  obtain ⟨_, hx⟩ := vb_if hx
  obtain ⟨_, hx⟩ := vb_if hx
  refine vb_ite hx (fun _ hx => ?_) (fun _ hx => ?_)
  · obtain ⟨_, hx⟩ := vb_if hx
    have hx := Option.some.inj hx
    subst hx
    exact hK
  · obtain ⟨r25, h24, hx⟩ := vb_bind hx
    have hx := Option.some.inj hx
    subst hx
    exact ((fg_173 hfor h24 (vsub hc (by decide))).trans rfl).symm.trans hK
theorem fg_180_31 {M : eM} {c j : Nat} (hfor : c = 45) {v : Int} {x1 : Int} {x2 : Int} {x3 : Int} {x4 : Int} {x5 : Int} {s : Int × Int} {x : Int × eM} (hc : j ∉ ([2] : List Nat)) (hx : lp (fun z => fn_180_31 x1 x2 x3 x4 x5 M z.1 z.2) s = some x) (hK : (fun (x : Int × eM) => ((x).2) c j = v) x) : M c j = v := by
  refine lp_sound (P := (fun (s : Int × Int) => M c j = v)) (K := (fun (x : Int × eM) => ((x).2) c j = v)) hx hK ?_
  intro s x hx hK
  obtain ⟨s1, s2⟩ := s
  refine vb_ite hx (fun _ hx => ?_) (fun _ hx => ?_)
  · have hx := Option.some.inj hx
    subst hx
    exact (Eq.refl _).symm.trans hK
  · refine vb_ite hx (fun _ hx => ?_) (fun _ hx => ?_)
    · have hz := fg_180_42 hfor hc hx hK
      exact (Eq.refl _).symm.trans hz
    · obtain ⟨_, hx⟩ := vb_if hx
      have hz := fg_180_42 hfor hc hx hK
      exact (Eq.refl _).symm.trans hz
theorem fg_180_8 {M : eM} {c j : Nat} (hfor : c = 45) {v : Int} {x1 : Int} {x2 : Int} {x3 : Int} {x4 : Int} {y0 : Int} {x : Int × eM} (hc : j ∉ ([2] : List Nat)) (hx : fn_180_8 x1 x2 x3 x4 y0 M = some x) (hK : (fun (x : Int × eM) => ((x).2) c j = v) x) : M c j = v := by
  obtain ⟨r3, h2, hx⟩ := vb_bind hx
  refine vb_ite hx (fun _ hx => ?_) (fun _ hx => ?_)
  · obtain ⟨r7, h6, hx⟩ := vb_bind hx
    have hx := Option.some.inj hx
    subst hx
    exact ((fg_173 hfor h6 (vsub hc (by decide))).trans rfl).symm.trans hK
  · obtain ⟨r10, h9, hx⟩ := vb_bind hx
    refine vb_ite hx (fun _ hx => ?_) (fun _ hx => ?_)
    · obtain ⟨r14, h13, hx⟩ := vb_bind hx
      have hx := Option.some.inj hx
      subst hx
      exact ((fg_173 hfor h13 (vsub hc (by decide))).trans rfl).symm.trans hK
    · refine vb_ite hx (fun _ hx => ?_) (fun _ hx => ?_)
      · obtain ⟨_, hx⟩ := vb_if hx
        have hz := fg_180_31 hfor hc hx hK
        exact (Eq.refl _).symm.trans hz
      · obtain ⟨r29, h28, hx⟩ := vb_bind hx
        have hx := Option.some.inj hx
        subst hx
        exact ((fg_173 hfor h28 (vsub hc (by decide))).trans rfl).symm.trans hK
theorem fg_180 {M : eM} {c j : Nat} (hfor : c = 45) {a : Int} {b : Int} {e : Int} {f : Int} {x : Int × eM} (hx : fn_180 a b e f M = some x) (hc : j ∉ ([2] : List Nat)) : ((x).2) c j = M c j := by
  obtain ⟨v, hK⟩ : ∃ v, ((x).2) c j = v := ⟨_, rfl⟩
  rw [hK]
  refine Eq.symm ?_
  refine vb_ite hx (fun _ hx => ?_) (fun _ hx => ?_)
  · have hz := fg_180_8 hfor hc hx hK
    exact (Eq.refl _).symm.trans hz
  · obtain ⟨_, hx⟩ := vb_if hx
    have hz := fg_180_8 hfor hc hx hK
    exact (Eq.refl _).symm.trans hz
theorem fg_179_17 {c j : Nat} (hfor : c = 45) {v : Int} {x1 : Int} {s : Int × Int × eM} {x : Int × eM} (hc : j ∉ ([2] : List Nat)) (hx : lp (fun z => fn_179_17 x1 z.1 z.2.1 z.2.2) s = some x) (hK : (fun (x : Int × eM) => ((x).2) c j = v) x) : s.2.2 c j = v := by
  refine lp_sound (P := (fun (s : Int × Int × eM) => s.2.2 c j = v)) (K := (fun (x : Int × eM) => ((x).2) c j = v)) hx hK ?_
  intro s x hx hK
  obtain ⟨s1, s2, s3⟩ := s
  obtain ⟨_, hx⟩ := vb_if hx
  refine vb_ite hx (fun _ hx => ?_) (fun _ hx => ?_)
  · have hx := Option.some.inj hx
    subst hx
    exact (Eq.refl _).symm.trans hK
  · obtain ⟨r7, h6, hx⟩ := vb_bind hx
    refine vb_ite hx (fun _ hx => ?_) (fun _ hx => ?_)
    · obtain ⟨_, hx⟩ := vb_if hx
      have hx := Option.some.inj hx
      subst hx
      exact ((fg_180 hfor h6 (vsub hc (by decide))).trans rfl).symm.trans hK
    · have hx := Option.some.inj hx
      subst hx
      exact ((fg_180 hfor h6 (vsub hc (by decide))).trans rfl).symm.trans hK
theorem fg_179 {M : eM} {c j : Nat} (hfor : c = 45) {a : Int} {x : Int × eM} (hx : fn_179 a M = some x) (hc : j ∉ ([2] : List Nat)) : ((x).2) c j = M c j := by
  obtain ⟨v, hK⟩ : ∃ v, ((x).2) c j = v := ⟨_, rfl⟩
  rw [hK]
  refine Eq.symm ?_
  obtain ⟨_, hx⟩ := vb_if hx
  refine vb_ite hx (fun _ hx => ?_) (fun _ hx => ?_)
  · have hz := fg_179_17 hfor hc hx hK
    exact (Eq.refl _).symm.trans hz
  · obtain ⟨r12, h11, hx⟩ := vb_bind hx
    have hx := Option.some.inj hx
    subst hx
    exact ((fg_173 hfor h11 (vsub hc (by decide))).trans rfl).symm.trans hK
theorem fg_181_2 {c j : Nat} (hfor : c = 45) {v : Int} {x1 : Int} {x2 : Int} {s : Int × eM} {x : eM} (hc : j ∉ ([23] : List Nat)) (hx : lp (fun z => fn_181_2 x1 x2 z.1 z.2) s = some x) (hK : (fun (x : eM) => x c j = v) x) : s.2 c j = v := by
  refine lp_sound (P := (fun (s : Int × eM) => s.2 c j = v)) (K := (fun (x : eM) => x c j = v)) hx hK ?_
  intro s x hx hK
  obtain ⟨s1, s2⟩ := s
  refine vb_ite hx (fun _ hx => ?_) (fun _ hx => ?_)
  · have hx := Option.some.inj hx
    subst hx
    exact (Eq.refl _).symm.trans hK
  · obtain ⟨m4, h2, hx⟩ := vb_bind hx
    obtain ⟨_, hx⟩ := vb_if hx
    have hx := Option.some.inj hx
    subst hx
    exact ((fg_178 hfor h2 (vsub hc (by decide))).trans rfl).symm.trans hK
theorem fg_181 {M : eM} {c j : Nat} (hfor : c = 45) {a : Int} {b : Int} {x : eM} (hx : fn_181 a b M = some x) (hc : j ∉ ([23] : List Nat)) : x c j = M c j := by
  obtain ⟨v, hK⟩ : ∃ v, x c j = v := ⟨_, rfl⟩
  rw [hK]
  refine Eq.symm ?_
  have hz := fg_181_2 hfor hc hx hK
  exact (Eq.refl _).symm.trans hz
theorem fg_171_109 {c j : Nat} (hfor : c = 45) {v : Int} {x1 : Int} {x2 : Int} {x3 : Int} {x5 : Int} {s : Int × Int × eM} {x : Int × eM} (hc : j ∉ ([2, 23] : List Nat)) (hx : lp (fun z => fn_171_109 x1 x2 x3 x5 z.1 z.2.1 z.2.2) s = some x) (hK : (fun (x : Int × eM) => ((x).2) c j = v) x) : s.2.2 c j = v := by
  refine lp_sound (P := (fun (s : Int × Int × eM) => s.2.2 c j = v)) (K := (fun (x : Int × eM) => ((x).2) c j = v)) hx hK ?_
  intro s x hx hK
  obtain ⟨s1, s2, s3⟩ := s
  refine vb_ite hx (fun _ hx => ?_) (fun _ hx => ?_)
  · have hx := Option.some.inj hx
    subst hx
    exact (Eq.refl _).symm.trans hK
  · obtain ⟨m88, h86, hx⟩ := vb_bind hx
    obtain ⟨_, hx⟩ := vb_if hx
    have hx := Option.some.inj hx
    subst hx
    exact ((fg_178 hfor h86 (vsub hc (by decide))).trans rfl).symm.trans hK
theorem fg_171 {M : eM} {c j : Nat} (hfor : c = 45) {a : Int} {b : Int} {x : Int × eM} (hx : fn_171 a b M = some x) (hc : j ∉ ([2, 23] : List Nat)) : ((x).2) c j = M c j := by
  obtain ⟨v, hK⟩ : ∃ v, ((x).2) c j = v := ⟨_, rfl⟩
  rw [hK]
  refine Eq.symm ?_
  obtain ⟨_, hx⟩ := vb_if hx
  refine vb_ite hx (fun _ hx => ?_) (fun _ hx => ?_)
  · obtain ⟨r4, h3, hx⟩ := vb_bind hx
    refine vb_ite hx (fun _ hx => ?_) (fun _ hx => ?_)
    · obtain ⟨r8, h7, hx⟩ := vb_bind hx
      refine vb_ite hx (fun _ hx => ?_) (fun _ hx => ?_)
      · obtain ⟨m13, h11, hx⟩ := vb_bind hx
        have hx := Option.some.inj hx
        subst hx
        exact ((fg_181 hfor h11 (vsub hc (by decide))).trans rfl).symm.trans hK
      refine vb_ite hx (fun _ hx => ?_) (fun _ hx => ?_)
      · have hx := Option.some.inj hx
        subst hx
        exact (Eq.refl _).symm.trans hK
      refine vb_ite hx (fun _ hx => ?_) (fun _ hx => ?_)
      · obtain ⟨m18, h16, hx⟩ := vb_bind hx
        have hx := Option.some.inj hx
        subst hx
        exact ((fg_181 hfor h16 (vsub hc (by decide))).trans rfl).symm.trans hK
      refine vb_ite hx (fun _ hx => ?_) (fun _ hx => ?_)
      · obtain ⟨r20, h19, hx⟩ := vb_bind hx
        obtain ⟨r23, h22, hx⟩ := vb_bind hx
        refine vb_ite hx (fun _ hx => ?_) (fun _ hx => ?_)
        · obtain ⟨r27, h26, hx⟩ := vb_bind hx
          have hx := Option.some.inj hx
          subst hx
          exact ((fg_173 hfor h26 (vsub hc (by decide))).trans rfl).symm.trans hK
        · obtain ⟨r30, h29, hx⟩ := vb_bind hx
          refine vb_ite hx (fun _ hx => ?_) (fun _ hx => ?_)
          · obtain ⟨_, hx⟩ := vb_if hx
            obtain ⟨m36, h34, hx⟩ := vb_bind hx
            have hx := Option.some.inj hx
            subst hx
            exact ((fg_178 hfor h34 (vsub hc (by decide))).trans rfl).symm.trans hK
          · obtain ⟨r38, h37, hx⟩ := vb_bind hx
            have hx := Option.some.inj hx
            subst hx
            exact ((fg_173 hfor h37 (vsub hc (by decide))).trans rfl).symm.trans hK
      refine vb_ite hx (fun _ hx => ?_) (fun _ hx => ?_)
      · obtain ⟨r41, h40, hx⟩ := vb_bind hx
        obtain ⟨r44, h43, hx⟩ := vb_bind hx
        refine vb_ite hx (fun _ hx => ?_) (fun _ hx => ?_)
        · obtain ⟨r48, h47, hx⟩ := vb_bind hx
          have hx := Option.some.inj hx
          subst hx
          exact ((fg_173 hfor h47 (vsub hc (by decide))).trans rfl).symm.trans hK
        · obtain ⟨r51, h50, hx⟩ := vb_bind hx
          refine vb_ite hx (fun _ hx => ?_) (fun _ hx => ?_)
          · obtain ⟨_, hx⟩ := vb_if hx
            obtain ⟨m57, h55, hx⟩ := vb_bind hx
            have hx := Option.some.inj hx
            subst hx
            exact ((fg_178 hfor h55 (vsub hc (by decide))).trans rfl).symm.trans hK
          · obtain ⟨r59, h58, hx⟩ := vb_bind hx
            have hx := Option.some.inj hx
            subst hx
            exact ((fg_173 hfor h58 (vsub hc (by decide))).trans rfl).symm.trans hK
      refine vb_ite hx (fun _ hx => ?_) (fun _ hx => ?_)
      · obtain ⟨r62, h61, hx⟩ := vb_bind hx
        obtain ⟨r65, h64, hx⟩ := vb_bind hx
        obtain ⟨r69, h68, hx⟩ := vb_bind hx
        obtain ⟨m73, h71, hx⟩ := vb_bind hx
        have hx := Option.some.inj hx
        subst hx
        exact ((fg_181 hfor h71 (vsub hc (by decide))).trans ((fg_179 hfor h64 (vsub hc (by decide))).trans rfl)).symm.trans hK
      refine vb_ite hx (fun _ hx => ?_) (fun _ hx => ?_)
      · obtain ⟨r75, h74, hx⟩ := vb_bind hx
        obtain ⟨_, hx⟩ := vb_if hx
        refine vb_ite hx (fun _ hx => ?_) (fun _ hx => ?_)
        · obtain ⟨m82, h80, hx⟩ := vb_bind hx
          have hz := fg_171_109 hfor hc hx hK
          exact ((fg_181 hfor h80 (vsub hc (by decide))).trans rfl).symm.trans hz
        · obtain ⟨r91, h90, hx⟩ := vb_bind hx
          have hx := Option.some.inj hx
          subst hx
          exact ((fg_173 hfor h90 (vsub hc (by decide))).trans rfl).symm.trans hK
      obtain ⟨m97, h95, hx⟩ := vb_bind hx
      have hx := Option.some.inj hx
      subst hx
      exact ((fg_181 hfor h95 (vsub hc (by decide))).trans rfl).symm.trans hK
    · obtain ⟨r99, h98, hx⟩ := vb_bind hx
      have hx := Option.some.inj hx
      subst hx
      exact ((fg_173 hfor h98 (vsub hc (by decide))).trans rfl).symm.trans hK
  · obtain ⟨r102, h101, hx⟩ := vb_bind hx
    refine vb_ite hx (fun _ hx => ?_) (fun _ hx => ?_)
    · have hx := Option.some.inj hx
      subst hx
      exact (Eq.refl _).symm.trans hK
    · obtain ⟨r106, h105, hx⟩ := vb_bind hx
      have hx := Option.some.inj hx
      subst hx
      exact ((fg_173 hfor h105 (vsub hc (by decide))).trans rfl).symm.trans hK
theorem fg_182_22 {M : eM} {c j : Nat} (hfor : c = 45) {v : Int} {x1 : Int} {x2 : Int} {x3 : Int} {y0 : Int} {x : Int × eM} (hc : j ∉ ([2, 23] : List Nat)) (hx : fn_182_22 x1 x2 x3 y0 M = some x) (hK : (fun (x : Int × eM) => ((x).2) c j = v) x) : M c j = v := by
  refine vb_ite hx (fun _ hx => ?_) (fun _ hx => ?_)
  · obtain ⟨r5, h4, hx⟩ := vb_bind hx
    refine vb_ite hx (fun _ hx => ?_) (fun _ hx => ?_)
    · have hx := Option.some.inj hx
      subst hx
      exact ((fg_180 hfor h4 (vsub hc (by decide))).trans rfl).symm.trans hK
    · obtain ⟨r9, h8, hx⟩ := vb_bind hx
      obtain ⟨m13, h11, hx⟩ := vb_bind hx
      have hx := Option.some.inj hx
      subst hx
      exact ((fg_178 hfor h11 (vsub hc (by decide))).trans ((fg_180 hfor h4 (vsub hc (by decide))).trans rfl)).symm.trans hK
  · obtain ⟨r15, h14, hx⟩ := vb_bind hx
    have hx := Option.some.inj hx
    subst hx
    exact ((fg_173 hfor h14 (vsub hc (by decide))).trans rfl).symm.trans hK
theorem fg_182_21 {M : eM} {c j : Nat} (hfor : c = 45) {v : Int} {x1 : Int} {x2 : Int} {x3 : Int} {x : Int × eM} (hc : j ∉ ([2, 23] : List Nat)) (hx : fn_182_21 x1 x2 x3 M = some x) (hK : (fun (x : Int × eM) => ((x).2) c j = v) x) : M c j = v := by
  have hz := fg_182_22 hfor hc hx hK
  exact (Eq.refl _).symm.trans hz
theorem fg_182 {M : eM} {c j : Nat} (hfor : c = 45) {a : Int} {b : Int} {e : Int} {x : Int × eM} (hx : fn_182 a b e M = some x) (hc : j ∉ ([2, 23] : List Nat)) : ((x).2) c j = M c j := by
  obtain ⟨v, hK⟩ : ∃ v, ((x).2) c j = v := ⟨_, rfl⟩
  rw [hK]
  refine Eq.symm ?_
  obtain ⟨_, hx⟩ := vb_if hx
  refine vb_ite hx (fun _ hx => ?_) (fun _ hx => ?_)
  · have hz := fg_182_21 hfor hc hx hK
    exact (Eq.refl _).symm.trans hz
  · refine vb_ite hx (fun _ hx => ?_) (fun _ hx => ?_)
    · have hz := fg_182_21 hfor hc hx hK
      exact (Eq.refl _).symm.trans hz
    · obtain ⟨r21, h20, hx⟩ := vb_bind hx
      refine vb_ite hx (fun _ hx => ?_) (fun _ hx => ?_)
      · have hz := fg_182_21 hfor hc hx hK
        exact (Eq.refl _).symm.trans hz
      · have hz := fg_182_22 hfor hc hx hK
        exact (Eq.refl _).symm.trans hz
theorem fg_170_13 {c j : Nat} (hfor : c = 45) {v : Int} {x1 : Int} {s : Int × eM} {x : (Int × eM) ⊕ (Int × eM)} (hc : j ∉ ([2, 23] : List Nat)) (hx : lp (fun z => fn_170_13 x1 z.1 z.2) s = some x) (hK : (eK (fun (s : Int × eM) => s.2 c j = v) (fun (x : Int × eM) => ((x).2) c j = v)) x) : s.2 c j = v := by
  refine lp_sound (P := (fun (s : Int × eM) => s.2 c j = v)) (K := (eK (fun (s : Int × eM) => s.2 c j = v) (fun (x : Int × eM) => ((x).2) c j = v))) hx hK ?_
  intro s x hx hK
  obtain ⟨s1, s2⟩ := s
  refine vb_ite hx (fun _ hx => ?_) (fun _ hx => ?_)
  · refine vb_ite hx (fun _ hx => ?_) (fun _ hx => ?_)
    · obtain ⟨_, hx⟩ := vb_if hx
      have hx := Option.some.inj hx
      subst hx
      exact (Eq.refl _).symm.trans hK
    · have hx := Option.some.inj hx
      subst hx
      exact (Eq.refl _).symm.trans hK
  · refine vb_ite hx (fun _ hx => ?_) (fun _ hx => ?_)
    · refine vb_ite hx (fun _ hx => ?_) (fun _ hx => ?_)
      · obtain ⟨_, hx⟩ := vb_if hx
        have hx := Option.some.inj hx
        subst hx
        exact (Eq.refl _).symm.trans hK
      · have hx := Option.some.inj hx
        subst hx
        exact (Eq.refl _).symm.trans hK
    · obtain ⟨_, hx⟩ := vb_if hx
      refine vb_ite hx (fun _ hx => ?_) (fun _ hx => ?_)
      · obtain ⟨r16, h15, hx⟩ := vb_bind hx
        have hx := Option.some.inj hx
        subst hx
        exact ((fg_182 hfor h15 (vsub hc (by decide))).trans ((eg_u_nj (fun z => vne hc (a := 23) (by decide) z.2)).trans rfl)).symm.trans hK
      · obtain ⟨r19, h18, hx⟩ := vb_bind hx
        have hx := Option.some.inj hx
        subst hx
        exact ((fg_171 hfor h18 (vsub hc (by decide))).trans ((eg_u_nj (fun z => vne hc (a := 23) (by decide) z.2)).trans rfl)).symm.trans hK
theorem fg_170_3 {c j : Nat} (hfor : c = 45) {v : Int} {s : Int × eM} {x : Int × eM} (hc : j ∉ ([2, 23] : List Nat)) (hx : lp (fun z => fn_170_3 z.1 z.2) s = some x) (hK : (fun (x : Int × eM) => ((x).2) c j = v) x) : s.2 c j = v := by
  refine lp_sound (P := (fun (s : Int × eM) => s.2 c j = v)) (K := (fun (x : Int × eM) => ((x).2) c j = v)) hx hK ?_
  intro s x hx hK
  obtain ⟨s1, s2⟩ := s
  refine vb_ite hx (fun _ hx => ?_) (fun _ hx => ?_)
  · have hx := Option.some.inj hx
    subst hx
    exact (Eq.refl _).symm.trans hK
  · obtain ⟨r3, h2, hx⟩ := vb_bind hx
    have hz := fg_170_13 hfor hc hx hK
    exact ((fg_171 hfor h2 (vsub hc (by decide))).trans ((eg_u_nj (fun z => vne hc (a := 23) (by decide) z.2)).trans rfl)).symm.trans hz
theorem fg_170 {M : eM} {c j : Nat} (hfor : c = 45) {x : Int × eM} (hx : fn_170 M = some x) (hc : j ∉ ([2, 23] : List Nat)) : ((x).2) c j = M c j := by
  obtain ⟨v, hK⟩ : ∃ v, ((x).2) c j = v := ⟨_, rfl⟩
  rw [hK]
  refine Eq.symm ?_
  have hz := fg_170_3 hfor hc hx hK
  exact (Eq.refl _).symm.trans hz
theorem fg_185 {M : eM} {c j : Nat} (hfor : c = 45) {a : Int} {x : Int × eM} (hx : fn_185 a M = some x) (hc : j ∉ ([69] : List Nat)) : ((x).2) c j = M c j := by
  obtain ⟨v, hK⟩ : ∃ v, ((x).2) c j = v := ⟨_, rfl⟩
  rw [hK]
  refine Eq.symm ?_
  have hx := Option.some.inj hx
  subst hx
  exact ((eg_u_nj (fun z => vne hc (a := 69) (by decide) z.2)).trans rfl).symm.trans hK
theorem fg_199 {M : eM} {c j : Nat} (hfor : c = 45) {a : Int} {x : eM} (hx : fn_199 a M = some x) (hc : j ∉ ([64] : List Nat)) : x c j = M c j := by
  obtain ⟨v, hK⟩ : ∃ v, x c j = v := ⟨_, rfl⟩
  rw [hK]
  refine Eq.symm ?_
  obtain ⟨r2, h1, hx⟩ := vb_bind hx
  refine vb_ite hx (fun _ hx => ?_) (fun _ hx => ?_)
  · obtain ⟨r6, h5, hx⟩ := vb_bind hx
    obtain ⟨_, hx⟩ := vb_if hx
    obtain ⟨r10, h9, hx⟩ := vb_bind hx
    obtain ⟨_, hx⟩ := vb_if hx
    have hx := Option.some.inj hx
    subst hx
    exact ((eg_u_nj (fun z => vne hc (a := 64) (by decide) z.2)).trans ((congrFun (eg_u_ne (vn45 hfor (a := 85) (by decide))) j).trans ((congrFun (eg_u_ne (vn45 hfor (a := 67) (by decide))) j).trans rfl))).symm.trans hK
  · have hx := Option.some.inj hx
    subst hx
    exact (Eq.refl _).symm.trans hK
theorem fg_202_25 {c j : Nat} (hfor : c = 45) {v : Int} {x1 : Int} {x2 : Int} {s : Int × eM} {x : (eM) ⊕ (eM)} (hc : j ∉ ([64] : List Nat)) (hx : lp (fun z => fn_202_25 x1 x2 z.1 z.2) s = some x) (hK : (eK (fun (s : eM) => s c j = v) (fun (x : eM) => x c j = v)) x) : s.2 c j = v := by
  refine lp_sound (P := (fun (s : Int × eM) => s.2 c j = v)) (K := (eK (fun (s : eM) => s c j = v) (fun (x : eM) => x c j = v))) hx hK ?_
  intro s x hx hK
  obtain ⟨s1, s2⟩ := s
  refine vb_ite hx (fun _ hx => ?_) (fun _ hx => ?_)
  · have hx := Option.some.inj hx
    subst hx
    exact (Eq.refl _).symm.trans hK
  · refine vb_ite hx (fun _ hx => ?_) (fun _ hx => ?_)
    · have hx := Option.some.inj hx
      subst hx
      exact (Eq.refl _).symm.trans hK
    · obtain ⟨_, hx⟩ := vb_if hx
      obtain ⟨m10, h8, hx⟩ := vb_bind hx
      have hx := Option.some.inj hx
      subst hx
      exact ((fg_199 hfor h8 (vsub hc (by decide))).trans rfl).symm.trans hK
theorem fg_202_0 {c j : Nat} (hfor : c = 45) {v : Int} {s : eM} {x : eM} (hc : j ∉ ([64] : List Nat)) (hx : lp (fn_202_0) s = some x) (hK : (fun (x : eM) => x c j = v) x) : s c j = v := by
  refine lp_sound (P := (fun (s : eM) => s c j = v)) (K := (fun (x : eM) => x c j = v)) hx hK ?_
  intro s x hx hK
  refine vb_ite hx (fun _ hx => ?_) (fun _ hx => ?_)
  · have hx := Option.some.inj hx
    subst hx
    exact (Eq.refl _).symm.trans hK
  · obtain ⟨_, hx⟩ := vb_if hx
    obtain ⟨_, hx⟩ := vb_if hx
    have hz := fg_202_25 hfor hc hx hK
    exact ((eg_u_nj (fun z => vne hc (a := 64) (by decide) z.2)).trans rfl).symm.trans hz
theorem fg_202 {M : eM} {c j : Nat} (hfor : c = 45) {x : eM} (hx : fn_202 M = some x) (hc : j ∉ ([64] : List Nat)) : x c j = M c j := by
  obtain ⟨v, hK⟩ : ∃ v, x c j = v := ⟨_, rfl⟩
  rw [hK]
  refine Eq.symm ?_
  have hz := fg_202_0 hfor hc hx hK
  exact (Eq.refl _).symm.trans hz
theorem fg_204_32 {M : eM} {c j : Nat} (hfor : c = 45) {v : Int} {x1 : Int} {x3 : Int} {x4 : Int} {y0 : Int} {x : (Int × Int × eM) ⊕ (Int × eM)} (hc : j ∉ ([64] : List Nat)) (hx : fn_204_32 x1 x3 x4 y0 M = some x) (hK : (eK (fun (s : Int × Int × eM) => s.2.2 c j = v) (fun (x : Int × eM) => ((x).2) c j = v)) x) : M c j = v := by
  refine vb_ite hx (fun _ hx => ?_) (fun _ hx => ?_)
  · obtain ⟨r14, h13, hx⟩ := vb_bind hx
    have hx := Option.some.inj hx
    subst hx
    exact (Eq.refl _).symm.trans hK
  · obtain ⟨r17, h16, hx⟩ := vb_bind hx
    obtain ⟨_, hx⟩ := vb_if hx
    obtain ⟨r21, h20, hx⟩ := vb_bind hx
    obtain ⟨m25, h23, hx⟩ := vb_bind hx
    obtain ⟨r27, h26, hx⟩ := vb_bind hx
    have hx := Option.some.inj hx
    subst hx
    exact ((fg_199 hfor h23 (vsub hc (by decide))).trans ((congrFun (eg_u_ne (vn45 hfor (a := 67) (by decide))) j).trans rfl)).symm.trans hK
theorem fg_204_31 {M : eM} {c j : Nat} (hfor : c = 45) {v : Int} {x1 : Int} {x3 : Int} {x4 : Int} {x : (Int × Int × eM) ⊕ (Int × eM)} (hc : j ∉ ([64] : List Nat)) (hx : fn_204_31 x1 x3 x4 M = some x) (hK : (eK (fun (s : Int × Int × eM) => s.2.2 c j = v) (fun (x : Int × eM) => ((x).2) c j = v)) x) : M c j = v := by
  have hz := fg_204_32 hfor hc hx hK
  exact (Eq.refl _).symm.trans hz
theorem fg_204_29 {M : eM} {c j : Nat} (hfor : c = 45) {v : Int} {x1 : Int} {x3 : Int} {x4 : Int} {x : (Int × Int × eM) ⊕ (Int × eM)} (hc : j ∉ ([64] : List Nat)) (hx : fn_204_29 x1 x3 x4 M = some x) (hK : (eK (fun (s : Int × Int × eM) => s.2.2 c j = v) (fun (x : Int × eM) => ((x).2) c j = v)) x) : M c j = v := by
  have hz := fg_204_32 hfor hc hx hK
  exact (Eq.refl _).symm.trans hz
theorem fg_204_7 {c j : Nat} (hfor : c = 45) {v : Int} {x1 : Int} {s : Int × Int × eM} {x : Int × eM} (hc : j ∉ ([64] : List Nat)) (hx : lp (fun z => fn_204_7 x1 z.1 z.2.1 z.2.2) s = some x) (hK : (fun (x : Int × eM) => ((x).2) c j = v) x) : s.2.2 c j = v := by
  refine lp_sound (P := (fun (s : Int × Int × eM) => s.2.2 c j = v)) (K := (fun (x : Int × eM) => ((x).2) c j = v)) hx hK ?_
  intro s x hx hK
  obtain ⟨s1, s2, s3⟩ := s
  refine vb_ite hx (fun _ hx => ?_) (fun _ hx => ?_)
  · obtain ⟨_, hx⟩ := vb_if hx
    have hx := Option.some.inj hx
    subst hx
    exact (Eq.refl _).symm.trans hK
  · obtain ⟨r6, h5, hx⟩ := vb_bind hx
    obtain ⟨r9, h8, hx⟩ := vb_bind hx
    refine vb_ite hx (fun _ hx => ?_) (fun _ hx => ?_)
    · have hz := fg_204_31 hfor hc hx hK
      exact (Eq.refl _).symm.trans hz
    · obtain ⟨r30, h29, hx⟩ := vb_bind hx
      refine vb_ite hx (fun _ hx => ?_) (fun _ hx => ?_)
      · have hz := fg_204_29 hfor hc hx hK
        exact (Eq.refl _).symm.trans hz
      · obtain ⟨r34, h33, hx⟩ := vb_bind hx
        obtain ⟨r37, h36, hx⟩ := vb_bind hx
        refine vb_ite hx (fun _ hx => ?_) (fun _ hx => ?_)
        · have hz := fg_204_31 hfor hc hx hK
          exact (Eq.refl _).symm.trans hz
        · have hz := fg_204_29 hfor hc hx hK
          exact (Eq.refl _).symm.trans hz
theorem fg_204 {M : eM} {c j : Nat} (hfor : c = 45) {a : Int} {x : Int × eM} (hx : fn_204 a M = some x) (hc : j ∉ ([64] : List Nat)) : ((x).2) c j = M c j := by
  obtain ⟨v, hK⟩ : ∃ v, ((x).2) c j = v := ⟨_, rfl⟩
  rw [hK]
  refine Eq.symm ?_
  obtain ⟨r2, h1, hx⟩ := vb_bind hx
  have hz := fg_204_7 hfor hc hx hK
  exact (Eq.refl _).symm.trans hz
theorem fg_203_71 {c j : Nat} (hfor : c = 45) {v : Int} {s : Int × Int × eM} {x : Int × eM} (hc : j ∉ ([64] : List Nat)) (hx : lp (fun z => fn_203_71 z.1 z.2.1 z.2.2) s = some x) (hK : (fun (x : Int × eM) => ((x).2) c j = v) x) : s.2.2 c j = v := by
  refine lp_sound (P := (fun (s : Int × Int × eM) => s.2.2 c j = v)) (K := (fun (x : Int × eM) => ((x).2) c j = v)) hx hK ?_
  intro s x hx hK
  obtain ⟨s1, s2, s3⟩ := s
  refine vb_ite hx (fun _ hx => ?_) (fun _ hx => ?_)
  · obtain ⟨m5, h3, hx⟩ := vb_bind hx
    obtain ⟨_, hx⟩ := vb_if hx
    have hx := Option.some.inj hx
    subst hx
    exact ((fg_202 hfor h3 (vsub hc (by decide))).trans rfl).symm.trans hK
  · obtain ⟨_, hx⟩ := vb_if hx
    obtain ⟨r8, h7, hx⟩ := vb_bind hx
    refine vb_ite hx (fun _ hx => ?_) (fun _ hx => ?_)
    · have hx := Option.some.inj hx
      subst hx
      exact (Eq.refl _).symm.trans hK
    · obtain ⟨r13, h12, hx⟩ := vb_bind hx
      refine vb_ite hx (fun _ hx => ?_) (fun _ hx => ?_)
      · have hx := Option.some.inj hx
        subst hx
        exact (Eq.refl _).symm.trans hK
      · obtain ⟨m19, h17, hx⟩ := vb_bind hx
        have hx := Option.some.inj hx
        subst hx
        exact ((fg_199 hfor h17 (vsub hc (by decide))).trans rfl).symm.trans hK
theorem fg_203_51 {M : eM} {c j : Nat} (hfor : c = 45) {v : Int} {x1 : Int} {x2 : Int} {x3 : Int} {x : (Int × Int × eM) ⊕ (Int × eM)} (hc : j ∉ ([64] : List Nat)) (hx : fn_203_51 x1 x2 x3 M = some x) (hK : (eK (fun (s : Int × Int × eM) => s.2.2 c j = v) (fun (x : Int × eM) => ((x).2) c j = v)) x) : M c j = v := by
  obtain ⟨_, hx⟩ := vb_if hx
  refine vb_ite hx (fun _ hx => ?_) (fun _ hx => ?_)
  · have hx := Option.some.inj hx
    subst hx
    exact (Eq.refl _).symm.trans hK
  · obtain ⟨r29, h28, hx⟩ := vb_bind hx
    refine vb_ite hx (fun _ hx => ?_) (fun _ hx => ?_)
    · have hx := Option.some.inj hx
      subst hx
      exact ((fg_204 hfor h28 (vsub hc (by decide))).trans rfl).symm.trans hK
    · refine vb_ite hx (fun _ hx => ?_) (fun _ hx => ?_)
      · have hx := Option.some.inj hx
        subst hx
        exact ((fg_204 hfor h28 (vsub hc (by decide))).trans rfl).symm.trans hK
      · have hx := Option.some.inj hx
        subst hx
        exact ((fg_204 hfor h28 (vsub hc (by decide))).trans rfl).symm.trans hK
theorem fg_203_4 {c j : Nat} (hfor : c = 45) {v : Int} {s : Int × Int × eM} {x : Int × eM} (hc : j ∉ ([64] : List Nat)) (hx : lp (fun z => fn_203_4 z.1 z.2.1 z.2.2) s = some x) (hK : (fun (x : Int × eM) => ((x).2) c j = v) x) : s.2.2 c j = v := by
  refine lp_sound (P := (fun (s : Int × Int × eM) => s.2.2 c j = v)) (K := (fun (x : Int × eM) => ((x).2) c j = v)) hx hK ?_
  intro s x hx hK
  obtain ⟨s1, s2, s3⟩ := s
  refine vb_ite hx (fun _ hx => ?_) (fun _ hx => ?_)
  · obtain ⟨x, hy, e9⟩ := vb_map hx
    clear hx
    subst e9
    have hx := hy
    clear hy
    have hz := fg_203_71 hfor hc hx hK
    exact (Eq.refl _).symm.trans hz
  · obtain ⟨_, hx⟩ := vb_if hx
    refine vb_ite hx (fun _ hx => ?_) (fun _ hx => ?_)
    · have hx := Option.some.inj hx
      subst hx
      exact (Eq.refl _).symm.trans hK
    · refine vb_ite hx (fun _ hx => ?_) (fun _ hx => ?_)
      · refine vb_ite hx (fun _ hx => ?_) (fun _ hx => ?_)
        · have hz := fg_203_51 hfor hc hx hK
          exact (Eq.refl _).symm.trans hz
        · obtain ⟨r34, h33, hx⟩ := vb_bind hx
          obtain ⟨r37, h36, hx⟩ := vb_bind hx
          refine vb_ite hx (fun _ hx => ?_) (fun _ hx => ?_)
          · have hz := fg_203_51 hfor hc hx hK
            exact (Eq.refl _).symm.trans hz
          · obtain ⟨r41, h40, hx⟩ := vb_bind hx
            obtain ⟨r44, h43, hx⟩ := vb_bind hx
            refine vb_ite hx (fun _ hx => ?_) (fun _ hx => ?_)
            · have hz := fg_203_51 hfor hc hx hK
              exact (Eq.refl _).symm.trans hz
            · obtain ⟨r48, h47, hx⟩ := vb_bind hx
              obtain ⟨m52, h50, hx⟩ := vb_bind hx
              have hz := fg_203_51 hfor hc hx hK
              exact ((fg_199 hfor h50 (vsub hc (by decide))).trans rfl).symm.trans hz
      · have hx := Option.some.inj hx
        subst hx
        exact (Eq.refl _).symm.trans hK
theorem fg_203 {M : eM} {c j : Nat} (hfor : c = 45) {x : Int × eM} (hx : fn_203 M = some x) (hc : j ∉ ([64] : List Nat)) : ((x).2) c j = M c j := by
  obtain ⟨v, hK⟩ : ∃ v, ((x).2) c j = v := ⟨_, rfl⟩
  rw [hK]
  refine Eq.symm ?_
  have hz := fg_203_4 hfor hc hx hK
  exact (Eq.refl _).symm.trans hz
theorem fg_198_101 {c j : Nat} (hfor : c = 45) {v : Int} {x1 : Int} {s : eM} {x : eM} (hc : j ∉ ([64] : List Nat)) (hx : lp (fn_198_101 x1) s = some x) (hK : (fun (x : eM) => x c j = v) x) : s c j = v := by
  refine lp_sound (P := (fun (s : eM) => s c j = v)) (K := (fun (x : eM) => x c j = v)) hx hK ?_
  intro s x hx hK
  obtain ⟨r17, h16, hx⟩ := vb_bind hx
  refine vb_ite hx (fun _ hx => ?_) (fun _ hx => ?_)
  · have hx := Option.some.inj hx
    subst hx
    exact ((fg_203 hfor h16 (vsub hc (by decide))).trans rfl).symm.trans hK
  · obtain ⟨m22, h20, hx⟩ := vb_bind hx
    have hx := Option.some.inj hx
    subst hx
    exact ((fg_199 hfor h20 (vsub hc (by decide))).trans ((fg_203 hfor h16 (vsub hc (by decide))).trans rfl)).symm.trans hK
theorem fg_198_81 {c j : Nat} (hfor : c = 45) {v : Int} {s : Int × eM} {x : eM} (hc : j ∉ ([64] : List Nat)) (hx : lp (fun z => fn_198_81 z.1 z.2) s = some x) (hK : (fun (x : eM) => x c j = v) x) : s.2 c j = v := by
  refine lp_sound (P := (fun (s : Int × eM) => s.2 c j = v)) (K := (fun (x : eM) => x c j = v)) hx hK ?_
  intro s x hx hK
  obtain ⟨s1, s2⟩ := s
  refine vb_ite hx (fun _ hx => ?_) (fun _ hx => ?_)
  · obtain ⟨m15, h13, hx⟩ := vb_bind hx
    obtain ⟨x, hy, e9⟩ := vb_map hx
    clear hx
    subst e9
    have hx := hy
    clear hy
    have hz := fg_198_101 hfor hc hx hK
    exact ((fg_202 hfor h13 (vsub hc (by decide))).trans rfl).symm.trans hz
  · obtain ⟨_, hx⟩ := vb_if hx
    obtain ⟨m26, h24, hx⟩ := vb_bind hx
    obtain ⟨m30, h28, hx⟩ := vb_bind hx
    have hx := Option.some.inj hx
    subst hx
    exact ((fg_199 hfor h28 (vsub hc (by decide))).trans ((fg_199 hfor h24 (vsub hc (by decide))).trans rfl)).symm.trans hK
theorem fg_198_67 {c j : Nat} (hfor : c = 45) {v : Int} {s : Int × eM} {x : eM} (hc : j ∉ ([64] : List Nat)) (hx : lp (fun z => fn_198_67 z.1 z.2) s = some x) (hK : (fun (x : eM) => x c j = v) x) : s.2 c j = v := by
  refine lp_sound (P := (fun (s : Int × eM) => s.2 c j = v)) (K := (fun (x : eM) => x c j = v)) hx hK ?_
  intro s x hx hK
  obtain ⟨s1, s2⟩ := s
  refine vb_ite hx (fun _ hx => ?_) (fun _ hx => ?_)
  · obtain ⟨x, hy, e9⟩ := vb_map hx
    clear hx
    subst e9
    have hx := hy
    clear hy
    have hz := fg_198_81 hfor hc hx hK
    exact (Eq.refl _).symm.trans hz
  · obtain ⟨_, hx⟩ := vb_if hx
    obtain ⟨m34, h32, hx⟩ := vb_bind hx
    have hx := Option.some.inj hx
    subst hx
    exact ((fg_199 hfor h32 (vsub hc (by decide))).trans rfl).symm.trans hK
theorem fg_198_45 {c j : Nat} (hfor : c = 45) {v : Int} {s : Int × eM} {x : eM} (hc : j ∉ ([64] : List Nat)) (hx : lp (fun z => fn_198_45 z.1 z.2) s = some x) (hK : (fun (x : eM) => x c j = v) x) : s.2 c j = v := by
  refine lp_sound (P := (fun (s : Int × eM) => s.2 c j = v)) (K := (fun (x : eM) => x c j = v)) hx hK ?_
  intro s x hx hK
  obtain ⟨s1, s2⟩ := s
  refine vb_ite hx (fun _ hx => ?_) (fun _ hx => ?_)
  · obtain ⟨m7, h5, hx⟩ := vb_bind hx
    obtain ⟨m10, h8, hx⟩ := vb_bind hx
    obtain ⟨x, hy, e9⟩ := vb_map hx
    clear hx
    subst e9
    have hx := hy
    clear hy
    have hz := fg_198_67 hfor hc hx hK
    exact ((fg_199 hfor h8 (vsub hc (by decide))).trans ((fg_199 hfor h5 (vsub hc (by decide))).trans rfl)).symm.trans hz
  · obtain ⟨_, hx⟩ := vb_if hx
    obtain ⟨m38, h36, hx⟩ := vb_bind hx
    have hx := Option.some.inj hx
    subst hx
    exact ((fg_199 hfor h36 (vsub hc (by decide))).trans rfl).symm.trans hK
theorem fg_198_31 {c j : Nat} (hfor : c = 45) {v : Int} {s : Int × eM} {x : eM} (hc : j ∉ ([64] : List Nat)) (hx : lp (fun z => fn_198_31 z.1 z.2) s = some x) (hK : (fun (x : eM) => x c j = v) x) : s.2 c j = v := by
  refine lp_sound (P := (fun (s : Int × eM) => s.2 c j = v)) (K := (fun (x : eM) => x c j = v)) hx hK ?_
  intro s x hx hK
  obtain ⟨s1, s2⟩ := s
  refine vb_ite hx (fun _ hx => ?_) (fun _ hx => ?_)
  · obtain ⟨x, hy, e9⟩ := vb_map hx
    clear hx
    subst e9
    have hx := hy
    clear hy
    have hz := fg_198_45 hfor hc hx hK
    exact (Eq.refl _).symm.trans hz
  · obtain ⟨_, hx⟩ := vb_if hx
    obtain ⟨m42, h40, hx⟩ := vb_bind hx
    have hx := Option.some.inj hx
    subst hx
    exact ((fg_199 hfor h40 (vsub hc (by decide))).trans rfl).symm.trans hK
theorem fg_198_17 {c j : Nat} (hfor : c = 45) {v : Int} {s : Int × eM} {x : eM} (hc : j ∉ ([64] : List Nat)) (hx : lp (fun z => fn_198_17 z.1 z.2) s = some x) (hK : (fun (x : eM) => x c j = v) x) : s.2 c j = v := by
  refine lp_sound (P := (fun (s : Int × eM) => s.2 c j = v)) (K := (fun (x : eM) => x c j = v)) hx hK ?_
  intro s x hx hK
  obtain ⟨s1, s2⟩ := s
  refine vb_ite hx (fun _ hx => ?_) (fun _ hx => ?_)
  · obtain ⟨x, hy, e9⟩ := vb_map hx
    clear hx
    subst e9
    have hx := hy
    clear hy
    have hz := fg_198_31 hfor hc hx hK
    exact (Eq.refl _).symm.trans hz
  · obtain ⟨_, hx⟩ := vb_if hx
    obtain ⟨m46, h44, hx⟩ := vb_bind hx
    have hx := Option.some.inj hx
    subst hx
    exact ((fg_199 hfor h44 (vsub hc (by decide))).trans rfl).symm.trans hK
theorem fg_198_2 {c j : Nat} (hfor : c = 45) {v : Int} {s : Int × eM} {x : eM} (hc : j ∉ ([64] : List Nat)) (hx : lp (fun z => fn_198_2 z.1 z.2) s = some x) (hK : (fun (x : eM) => x c j = v) x) : s.2 c j = v := by
  refine lp_sound (P := (fun (s : Int × eM) => s.2 c j = v)) (K := (fun (x : eM) => x c j = v)) hx hK ?_
  intro s x hx hK
  obtain ⟨s1, s2⟩ := s
  refine vb_ite hx (fun _ hx => ?_) (fun _ hx => ?_)
  · obtain ⟨x, hy, e9⟩ := vb_map hx
    clear hx
    subst e9
    have hx := hy
    clear hy
    have hz := fg_198_17 hfor hc hx hK
    exact ((eg_u_nj (fun z => vne hc (a := 64) (by decide) z.2)).trans rfl).symm.trans hz
  · obtain ⟨_, hx⟩ := vb_if hx
    have hx := Option.some.inj hx
    subst hx
    exact ((congrFun (eg_u_ne (vn45 hfor (a := 67) (by decide))) j).trans rfl).symm.trans hK
theorem fg_198 {M : eM} {c j : Nat} (hfor : c = 45) {x : eM} (hx : fn_198 M = some x) (hc : j ∉ ([64] : List Nat)) : x c j = M c j := by
  obtain ⟨v, hK⟩ : ∃ v, x c j = v := ⟨_, rfl⟩
  rw [hK]
  refine Eq.symm ?_
  have hz := fg_198_2 hfor hc hx hK
  exact (Eq.refl _).symm.trans hz
theorem fg_205 {M : eM} {c j : Nat} (hfor : c = 45) {a : Int} {b : Int} {e : Int} {x : eM} (hx : fn_205 a b e M = some x) (hc : j ∉ ([] : List Nat)) : x c j = M c j := by
  obtain ⟨v, hK⟩ : ∃ v, x c j = v := ⟨_, rfl⟩
  rw [hK]
  refine Eq.symm ?_
  obtain ⟨r2, h1, hx⟩ := vb_bind hx
  obtain ⟨r5, h4, hx⟩ := vb_bind hx
  obtain ⟨_, hx⟩ := vb_if hx
  have hx := Option.some.inj hx
  subst hx
  exact ((congrFun (eg_u_ne (vn45 hfor (a := 70) (by decide))) j).trans rfl).symm.trans hK
theorem fg_206_7 {c j : Nat} (hfor : c = 45) {v : Int} {x1 : Int} {s : Int × Int × eM} {x : eM} (hc : j ∉ ([] : List Nat)) (hx : lp (fun z => fn_206_7 x1 z.1 z.2.1 z.2.2) s = some x) (hK : (fun (x : eM) => x c j = v) x) : s.2.2 c j = v := by
  refine lp_sound (P := (fun (s : Int × Int × eM) => s.2.2 c j = v)) (K := (fun (x : eM) => x c j = v)) hx hK ?_
  intro s x hx hK
  obtain ⟨s1, s2, s3⟩ := s
  refine vb_ite hx (fun _ hx => ?_) (fun _ hx => ?_)
  · have hx := Option.some.inj hx
    subst hx
    exact (Eq.refl _).symm.trans hK
  · obtain ⟨r6, h5, hx⟩ := vb_bind hx
    obtain ⟨r9, h8, hx⟩ := vb_bind hx
    refine vb_ite hx (fun _ hx => ?_) (fun _ hx => ?_)
    · refine vb_ite hx (fun _ hx => ?_) (fun _ hx => ?_)
      · obtain ⟨r14, h13, hx⟩ := vb_bind hx
        obtain ⟨m18, h16, hx⟩ := vb_bind hx
        obtain ⟨r20, h19, hx⟩ := vb_bind hx
        have hx := Option.some.inj hx
        subst hx
        exact ((fg_205 hfor h16 (vsub hc (by decide))).trans rfl).symm.trans hK
      · obtain ⟨r23, h22, hx⟩ := vb_bind hx
        obtain ⟨m27, h25, hx⟩ := vb_bind hx
        obtain ⟨r29, h28, hx⟩ := vb_bind hx
        have hx := Option.some.inj hx
        subst hx
        exact ((fg_205 hfor h25 (vsub hc (by decide))).trans rfl).symm.trans hK
    · obtain ⟨r32, h31, hx⟩ := vb_bind hx
      have hx := Option.some.inj hx
      subst hx
      exact (Eq.refl _).symm.trans hK
theorem fg_206 {M : eM} {c j : Nat} (hfor : c = 45) {a : Int} {x : eM} (hx : fn_206 a M = some x) (hc : j ∉ ([] : List Nat)) : x c j = M c j := by
  obtain ⟨v, hK⟩ : ∃ v, x c j = v := ⟨_, rfl⟩
  rw [hK]
  refine Eq.symm ?_
  obtain ⟨r2, h1, hx⟩ := vb_bind hx
  have hz := fg_206_7 hfor hc hx hK
  exact (Eq.refl _).symm.trans hz
theorem fg_207_5 {c j : Nat} (hfor : c = 45) {v : Int} {x1 : Int} {s : Int × eM} {x : eM} (hc : j ∉ ([28, 29, 38, 41] : List Nat)) (hx : lp (fun z => fn_207_5 x1 z.1 z.2) s = some x) (hK : (fun (x : eM) => x c j = v) x) : s.2 c j = v := by
  refine lp_sound (P := (fun (s : Int × eM) => s.2 c j = v)) (K := (fun (x : eM) => x c j = v)) hx hK ?_
  intro s x hx hK
  obtain ⟨s1, s2⟩ := s
  refine vb_ite hx (fun _ hx => ?_) (fun _ hx => ?_)
  · obtain ⟨_, hx⟩ := vb_if hx
    obtain ⟨r7, h6, hx⟩ := vb_bind hx
    obtain ⟨_, hx⟩ := vb_if hx
    have hx := Option.some.inj hx
    subst hx
    exact ((eg_u_nj (fun z => vne hc (a := 38) (by decide) z.2)).trans ((congrFun (eg_u_ne (vn45 hfor (a := 69) (by decide))) j).trans ((eg_u_nj (fun z => vne hc (a := 29) (by decide) z.2)).trans ((eg_u_nj (fun z => vne hc (a := 28) (by decide) z.2)).trans ((congrFun (eg_u_ne (vn45 hfor (a := 68) (by decide))) j).trans rfl))))).symm.trans hK
  · obtain ⟨_, hx⟩ := vb_if hx
    have hx := Option.some.inj hx
    subst hx
    exact ((eg_u_nj (fun z => vne hc (a := 41) (by decide) z.2)).trans ((congrFun (eg_u_ne (vn45 hfor (a := 71) (by decide))) j).trans rfl)).symm.trans hK
theorem fg_207 {M : eM} {c j : Nat} (hfor : c = 45) {a : Int} {x : eM} (hx : fn_207 a M = some x) (hc : j ∉ ([28, 29, 38, 41] : List Nat)) : x c j = M c j := by
  obtain ⟨v, hK⟩ : ∃ v, x c j = v := ⟨_, rfl⟩
  rw [hK]
  refine Eq.symm ?_
  obtain ⟨_, hx⟩ := vb_if hx
  have hz := fg_207_5 hfor hc hx hK
  exact (Eq.refl _).symm.trans hz
theorem fg_197_160 {c j : Nat} (hfor : c = 45) {v : Int} {x1 : Int} {s : Int × eM} {x : Int × eM} (hc : j ∉ ([28, 29, 38, 41, 43, 45, 48, 64, 66, 67] : List Nat)) (hx : lp (fun z => fn_197_160 x1 z.1 z.2) s = some x) (hK : (fun (x : Int × eM) => ((x).2) c j = v) x) : s.2 c j = v := by
  refine lp_sound (P := (fun (s : Int × eM) => s.2 c j = v)) (K := (fun (x : Int × eM) => ((x).2) c j = v)) hx hK ?_
  intro s x hx hK
  obtain ⟨s1, s2⟩ := s
  refine vb_ite hx (fun _ hx => ?_) (fun _ hx => ?_)
  · have hx := Option.some.inj hx
    subst hx
    exact (Eq.refl _).symm.trans hK
  · obtain ⟨_, hx⟩ := vb_if hx
    refine vb_ite hx (fun _ hx => ?_) (fun _ hx => ?_)
    · have hx := Option.some.inj hx
      subst hx
      exact (Eq.refl _).symm.trans hK
    · refine vb_ite hx (fun _ hx => ?_) (fun _ hx => ?_)
      · have hx := Option.some.inj hx
        subst hx
        exact (Eq.refl _).symm.trans hK
      · obtain ⟨m17, h15, hx⟩ := vb_bind hx
        have hx := Option.some.inj hx
        subst hx
        exact ((fg_207 hfor h15 (vsub hc (by decide))).trans rfl).symm.trans hK
theorem fg_197_95 {c j : Nat} (hfor : c = 45) {v : Int} {s : Int × Int × eM} {x : Int × eM} (hc : j ∉ ([28, 29, 38, 41, 43, 45, 48, 64, 66, 67] : List Nat)) (hx : lp (fun z => fn_197_95 z.1 z.2.1 z.2.2) s = some x) (hK : (fun (x : Int × eM) => ((x).2) c j = v) x) : s.2.2 c j = v := by
  refine lp_sound (P := (fun (s : Int × Int × eM) => s.2.2 c j = v)) (K := (fun (x : Int × eM) => ((x).2) c j = v)) hx hK ?_
  intro s x hx hK
  obtain ⟨s1, s2, s3⟩ := s
  refine vb_ite hx (fun _ hx => ?_) (fun _ hx => ?_)
  · obtain ⟨m9, h7, hx⟩ := vb_bind hx
    obtain ⟨x, hy, e9⟩ := vb_map hx
    clear hx
    subst e9
    have hx := hy
    clear hy
    have hz := fg_197_160 hfor hc hx hK
    exact ((fg_198 hfor h7 (vsub hc (by decide))).trans ((eg_u_nj (fun z => vne hc (a := 45) (by decide) z.2)).trans rfl)).symm.trans hz
  · obtain ⟨_, hx⟩ := vb_if hx
    obtain ⟨r20, h19, hx⟩ := vb_bind hx
    refine vb_ite hx (fun _ hx => ?_) (fun _ hx => ?_)
    · obtain ⟨_, hx⟩ := vb_if hx
      have hx := Option.some.inj hx
      subst hx
      exact ((eg_u_nj (fun z => vne hc (a := 48) (by decide) z.2)).trans ((congrFun (eg_u_ne (vn45 hfor (a := 76) (by decide))) j).trans ((congrFun (eg_u_ne (vn45 hfor (a := 75) (by decide))) j).trans rfl))).symm.trans hK
    · obtain ⟨_, hx⟩ := vb_if hx
      have hx := Option.some.inj hx
      subst hx
      exact ((congrFun (eg_u_ne (vn45 hfor (a := 74) (by decide))) j).trans ((congrFun (eg_u_ne (vn45 hfor (a := 73) (by decide))) j).trans rfl)).symm.trans hK
theorem fg_197_57 {M : eM} {c j : Nat} (hfor : c = 45) {v : Int} {x1 : Int} {x2 : Int} {x : (Int × eM) ⊕ (Int × eM)} (hc : j ∉ ([28, 29, 38, 41, 43, 45, 48, 64, 66, 67] : List Nat)) (hx : fn_197_57 x1 x2 M = some x) (hK : (eK (fun (s : Int × eM) => s.2 c j = v) (fun (x : Int × eM) => ((x).2) c j = v)) x) : M c j = v := by
  obtain ⟨_, hx⟩ := vb_if hx
  refine vb_ite hx (fun _ hx => ?_) (fun _ hx => ?_)
  · refine vb_ite hx (fun _ hx => ?_) (fun _ hx => ?_)
    · have hx := Option.some.inj hx
      subst hx
      exact (Eq.refl _).symm.trans hK
    · obtain ⟨m41, h39, hx⟩ := vb_bind hx
      have hx := Option.some.inj hx
      subst hx
      exact ((fg_206 hfor h39 (vsub hc (by decide))).trans rfl).symm.trans hK
  · obtain ⟨r43, h42, hx⟩ := vb_bind hx
    obtain ⟨r46, h45, hx⟩ := vb_bind hx
    refine vb_ite hx (fun _ hx => ?_) (fun _ hx => ?_)
    · refine vb_ite hx (fun _ hx => ?_) (fun _ hx => ?_)
      · have hx := Option.some.inj hx
        subst hx
        exact (Eq.refl _).symm.trans hK
      · obtain ⟨m53, h51, hx⟩ := vb_bind hx
        have hx := Option.some.inj hx
        subst hx
        exact ((fg_206 hfor h51 (vsub hc (by decide))).trans rfl).symm.trans hK
    · obtain ⟨m56, h54, hx⟩ := vb_bind hx
      obtain ⟨m59, h57, hx⟩ := vb_bind hx
      refine vb_ite hx (fun _ hx => ?_) (fun _ hx => ?_)
      · have hx := Option.some.inj hx
        subst hx
        exact ((fg_205 hfor h57 (vsub hc (by decide))).trans ((fg_205 hfor h54 (vsub hc (by decide))).trans rfl)).symm.trans hK
      · obtain ⟨m64, h62, hx⟩ := vb_bind hx
        have hx := Option.some.inj hx
        subst hx
        exact ((fg_206 hfor h62 (vsub hc (by decide))).trans ((fg_205 hfor h57 (vsub hc (by decide))).trans ((fg_205 hfor h54 (vsub hc (by decide))).trans rfl))).symm.trans hK
theorem fg_197_25 {c j : Nat} (hfor : c = 45) {v : Int} {s : Int × eM} {x : Int × eM} (hc : j ∉ ([28, 29, 38, 41, 43, 45, 48, 64, 66, 67] : List Nat)) (hx : lp (fun z => fn_197_25 z.1 z.2) s = some x) (hK : (fun (x : Int × eM) => ((x).2) c j = v) x) : s.2 c j = v := by
  refine lp_sound (P := (fun (s : Int × eM) => s.2 c j = v)) (K := (fun (x : Int × eM) => ((x).2) c j = v)) hx hK ?_
  intro s x hx hK
  obtain ⟨s1, s2⟩ := s
  refine vb_ite hx (fun _ hx => ?_) (fun _ hx => ?_)
  · obtain ⟨x, hy, e9⟩ := vb_map hx
    clear hx
    subst e9
    have hx := hy
    clear hy
    have hz := fg_197_95 hfor hc hx hK
    exact (Eq.refl _).symm.trans hz
  · obtain ⟨_, hx⟩ := vb_if hx
    refine vb_ite hx (fun _ hx => ?_) (fun _ hx => ?_)
    · refine vb_ite hx (fun _ hx => ?_) (fun _ hx => ?_)
      · have hz := fg_197_57 hfor hc hx hK
        exact (Eq.refl _).symm.trans hz
      · obtain ⟨r66, h65, hx⟩ := vb_bind hx
        obtain ⟨r69, h68, hx⟩ := vb_bind hx
        refine vb_ite hx (fun _ hx => ?_) (fun _ hx => ?_)
        · have hz := fg_197_57 hfor hc hx hK
          exact (Eq.refl _).symm.trans hz
        · obtain ⟨m74, h72, hx⟩ := vb_bind hx
          have hz := fg_197_57 hfor hc hx hK
          exact ((fg_205 hfor h72 (vsub hc (by decide))).trans rfl).symm.trans hz
    · have hx := Option.some.inj hx
      subst hx
      exact (Eq.refl _).symm.trans hK
theorem fg_197 {M : eM} {c j : Nat} (hfor : c = 45) {x : Int × eM} (hx : fn_197 M = some x) (hc : j ∉ ([28, 29, 38, 41, 43, 45, 48, 64, 66, 67] : List Nat)) : ((x).2) c j = M c j := by
  obtain ⟨v, hK⟩ : ∃ v, ((x).2) c j = v := ⟨_, rfl⟩
  rw [hK]
  refine Eq.symm ?_
  refine vb_ite hx (fun _ hx => ?_) (fun _ hx => ?_)
  · obtain ⟨m4, h2, hx⟩ := vb_bind hx
    have hz := fg_197_25 hfor hc hx hK
    exact ((fg_198 hfor h2 (vsub hc (by decide))).trans ((eg_u_nj (fun z => vne hc (a := 43) (by decide) z.2)).trans ((eg_u_nj (fun z => vne hc (a := 67) (by decide) z.2)).trans rfl))).symm.trans hz
  · have hx := Option.some.inj hx
    subst hx
    exact ((eg_u_nj (fun z => vne hc (a := 66) (by decide) z.2)).trans rfl).symm.trans hK
theorem fg_195_69 {c j : Nat} (hfor : c = 45) {v : Int} {x1 : Int} {x2 : Int} {x3 : Int} {x5 : Int} {x6 : Int} {s : Int × eM} {x : Int × eM} (hc : j ∉ ([28, 29, 38, 41, 43, 45, 48, 64, 66, 67] : List Nat)) (hx : lp (fun z => fn_195_69 x1 x2 x3 x5 x6 z.1 z.2) s = some x) (hK : (fun (x : Int × eM) => ((x).2) c j = v) x) : s.2 c j = v := by
  refine lp_sound (P := (fun (s : Int × eM) => s.2 c j = v)) (K := (fun (x : Int × eM) => ((x).2) c j = v)) hx hK ?_
  intro s x hx hK
  obtain ⟨s1, s2⟩ := s
  refine vb_ite hx (fun _ hx => ?_) (fun _ hx => ?_)
  · have hx := Option.some.inj hx
    subst hx
    exact ((eg_u_nj (fun z => vne hc (a := 29) (by decide) z.2)).trans ((eg_u_nj (fun z => vne hc (a := 28) (by decide) z.2)).trans rfl)).symm.trans hK
  · obtain ⟨_, hx⟩ := vb_if hx
    obtain ⟨_, hx⟩ := vb_if hx
    have hx := Option.some.inj hx
    subst hx
    exact ((congrFun (eg_u_ne (vn45 hfor (a := 65) (by decide))) j).trans ((congrFun (eg_u_ne (vn45 hfor (a := 71) (by decide))) j).trans ((congrFun (eg_u_ne (vn45 hfor (a := 70) (by decide))) j).trans ((eg_u_nj (fun z => vne hc (a := 41) (by decide) z.2)).trans rfl)))).symm.trans hK
theorem fg_195_16 {M : eM} {c j : Nat} (hfor : c = 45) {v : Int} {x1 : Int} {x2 : Int} {x3 : Int} {x5 : Int} {x : Int × eM} (hc : j ∉ ([28, 29, 38, 41, 43, 45, 48, 64, 66, 67] : List Nat)) (hx : fn_195_16 x1 x2 x3 x5 M = some x) (hK : (fun (x : Int × eM) => ((x).2) c j = v) x) : M c j = v := by
  refine vb_ite hx (fun _ hx => ?_) (fun _ hx => ?_)
  · obtain ⟨_, hx⟩ := vb_if hx
    obtain ⟨_, hx⟩ := vb_if hx
    have hz := fg_195_69 hfor hc hx hK
    exact ((congrFun (eg_u_ne (vn45 hfor (a := 65) (by decide))) j).trans ((congrFun (eg_u_ne (vn45 hfor (a := 68) (by decide))) j).trans ((congrFun (eg_u_ne (vn45 hfor (a := 66) (by decide))) j).trans ((congrFun (eg_u_ne (vn45 hfor (a := 63) (by decide))) j).trans ((congrFun (eg_u_ne (vn45 hfor (a := 62) (by decide))) j).trans ((eg_u_nj (fun z => vne hc (a := 38) (by decide) z.2)).trans rfl)))))).symm.trans hz
  · have hx := Option.some.inj hx
    subst hx
    exact ((eg_u_nj (fun z => vne hc (a := 66) (by decide) z.2)).trans rfl).symm.trans hK
theorem fg_195 {M : eM} {c j : Nat} (hfor : c = 45) {a : Int} {b : Int} {e : Int} {x : Int × eM} (hx : fn_195 a b e M = some x) (hc : j ∉ ([28, 29, 38, 41, 43, 45, 48, 64, 66, 67] : List Nat)) : ((x).2) c j = M c j := by
  obtain ⟨v, hK⟩ : ∃ v, ((x).2) c j = v := ⟨_, rfl⟩
  rw [hK]
  refine Eq.symm ?_
  obtain ⟨r2, h1, hx⟩ := vb_bind hx
  refine vb_ite hx (fun _ hx => ?_) (fun _ hx => ?_)
  · have hz := fg_195_16 hfor hc hx hK
    exact (Eq.refl _).symm.trans hz
  · obtain ⟨r19, h18, hx⟩ := vb_bind hx
    refine vb_ite hx (fun _ hx => ?_) (fun _ hx => ?_)
    · have hz := fg_195_16 hfor hc hx hK
      exact ((fg_197 hfor h18 (vsub hc (by decide))).trans rfl).symm.trans hz
    · have hx := Option.some.inj hx
      subst hx
      exact ((fg_197 hfor h18 (vsub hc (by decide))).trans rfl).symm.trans hK
theorem fg_193_118 {M : eM} {c j : Nat} (hfor : c = 45) {v : Int} {x1 : Int} {x2 : Int} {x3 : Int} {x7 : Int} {y0 : Int} {x : (Int × Int × eM) ⊕ ((Int × Int × eM) ⊕ (Int × eM))} (hc : j ∉ ([28, 29, 38, 41, 43, 45, 48, 59, 63, 64, 66, 67, 69, 70] : List Nat)) (hx : fn_193_118 x1 x2 x3 x7 y0 M = some x) (hK : (eK (fun (s : Int × Int × eM) => s.2.2 c j = v) (eK (fun (s : Int × Int × eM) => s.2.2 c j = v) (fun (x : Int × eM) => ((x).2) c j = v))) x) : M c j = v := by
  refine vb_ite hx (fun _ hx => ?_) (fun _ hx => ?_)
  · have hx := Option.some.inj hx
    subst hx
    exact (Eq.refl _).symm.trans hK
  · obtain ⟨_, hx⟩ := vb_if hx
    have hx := Option.some.inj hx
    subst hx
    exact ((eg_u_nj (fun z => vne hc (a := 63) (by decide) z.2)).trans ((eg_u_nj (fun z => vne hc (a := 59) (by decide) z.2)).trans rfl)).symm.trans hK
theorem fg_193_51 {c j : Nat} (hfor : c = 45) {v : Int} {x1 : Int} {x3 : Int} {s : Int × Int × eM} {x : (Int × Int × eM) ⊕ (Int × eM)} (hc : j ∉ ([28, 29, 38, 41, 43, 45, 48, 59, 63, 64, 66, 67, 69, 70] : List Nat)) (hx : lp (fun z => fn_193_51 x1 x3 z.1 z.2.1 z.2.2) s = some x) (hK : (eK (fun (s : Int × Int × eM) => s.2.2 c j = v) (fun (x : Int × eM) => ((x).2) c j = v)) x) : s.2.2 c j = v := by
  refine lp_sound (P := (fun (s : Int × Int × eM) => s.2.2 c j = v)) (K := (eK (fun (s : Int × Int × eM) => s.2.2 c j = v) (fun (x : Int × eM) => ((x).2) c j = v))) hx hK ?_
  intro s x hx hK
  obtain ⟨s1, s2, s3⟩ := s
  refine vb_ite hx (fun _ hx => ?_) (fun _ hx => ?_)
  · refine vb_ite hx (fun _ hx => ?_) (fun _ hx => ?_)
    · have hx := Option.some.inj hx
      subst hx
      exact (Eq.refl _).symm.trans hK
    · have hx := Option.some.inj hx
      subst hx
      exact (Eq.refl _).symm.trans hK
  · refine vb_ite hx (fun _ hx => ?_) (fun _ hx => ?_)
    · refine vb_ite hx (fun _ hx => ?_) (fun _ hx => ?_)
      · have hx := Option.some.inj hx
        subst hx
        exact (Eq.refl _).symm.trans hK
      · have hx := Option.some.inj hx
        subst hx
        exact (Eq.refl _).symm.trans hK
    · obtain ⟨_, hx⟩ := vb_if hx
      obtain ⟨r13, h12, hx⟩ := vb_bind hx
      refine vb_ite hx (fun _ hx => ?_) (fun _ hx => ?_)
      · obtain ⟨m18, h16, hx⟩ := vb_bind hx
        obtain ⟨_, hx⟩ := vb_if hx
        obtain ⟨_, hx⟩ := vb_if hx
        refine vb_ite hx (fun _ hx => ?_) (fun _ hx => ?_)
        · have hz := fg_193_118 hfor hc hx hK
          exact ((congrFun (eg_u_ne (vn45 hfor (a := 83) (by decide))) j).trans ((eg_u_nj (fun z => vne hc (a := 63) (by decide) z.2)).trans ((congrFun (eg_u_ne (vn45 hfor (a := 84) (by decide))) j).trans ((fg_205 hfor h16 (vsub hc (by decide))).trans ((fg_195 hfor h12 (vsub hc (by decide))).trans rfl))))).symm.trans hz
        · have hz := fg_193_118 hfor hc hx hK
          exact ((congrFun (eg_u_ne (vn45 hfor (a := 83) (by decide))) j).trans ((eg_u_nj (fun z => vne hc (a := 63) (by decide) z.2)).trans ((congrFun (eg_u_ne (vn45 hfor (a := 84) (by decide))) j).trans ((fg_205 hfor h16 (vsub hc (by decide))).trans ((fg_195 hfor h12 (vsub hc (by decide))).trans rfl))))).symm.trans hz
      · obtain ⟨r27, h26, hx⟩ := vb_bind hx
        have hx := Option.some.inj hx
        subst hx
        exact ((fg_185 hfor h26 (vsub hc (by decide))).trans ((fg_195 hfor h12 (vsub hc (by decide))).trans rfl)).symm.trans hK
theorem fg_193_4 {c j : Nat} (hfor : c = 45) {v : Int} {x1 : Int} {s : Int × Int × eM} {x : Int × eM} (hc : j ∉ ([28, 29, 38, 41, 43, 45, 48, 59, 63, 64, 66, 67, 69, 70] : List Nat)) (hx : lp (fun z => fn_193_4 x1 z.1 z.2.1 z.2.2) s = some x) (hK : (fun (x : Int × eM) => ((x).2) c j = v) x) : s.2.2 c j = v := by
  refine lp_sound (P := (fun (s : Int × Int × eM) => s.2.2 c j = v)) (K := (fun (x : Int × eM) => ((x).2) c j = v)) hx hK ?_
  intro s x hx hK
  obtain ⟨s1, s2, s3⟩ := s
  refine vb_ite hx (fun _ hx => ?_) (fun _ hx => ?_)
  · have hx := Option.some.inj hx
    subst hx
    exact ((eg_u_nj (fun z => vne hc (a := 70) (by decide) z.2)).trans rfl).symm.trans hK
  · obtain ⟨_, hx⟩ := vb_if hx
    refine vb_ite hx (fun _ hx => ?_) (fun _ hx => ?_)
    · obtain ⟨r5, h4, hx⟩ := vb_bind hx
      have hz := fg_193_51 hfor hc hx hK
      exact ((eg_u_nj (fun z => vne hc (a := 63) (by decide) z.2)).trans rfl).symm.trans hz
    · refine vb_ite hx (fun _ hx => ?_) (fun _ hx => ?_)
      · obtain ⟨r32, h31, hx⟩ := vb_bind hx
        have hz := fg_193_51 hfor hc hx hK
        exact ((eg_u_nj (fun z => vne hc (a := 63) (by decide) z.2)).trans rfl).symm.trans hz
      · obtain ⟨_, hx⟩ := vb_if hx
        have hx := Option.some.inj hx
        subst hx
        exact ((eg_u_nj (fun z => vne hc (a := 59) (by decide) z.2)).trans ((congrFun (eg_u_ne (vn45 hfor (a := 84) (by decide))) j).trans ((congrFun (eg_u_ne (vn45 hfor (a := 83) (by decide))) j).trans rfl))).symm.trans hK
theorem fg_193 {M : eM} {c j : Nat} (hfor : c = 45) {a : Int} {x : Int × eM} (hx : fn_193 a M = some x) (hc : j ∉ ([28, 29, 38, 41, 43, 45, 48, 59, 63, 64, 66, 67, 69, 70] : List Nat)) : ((x).2) c j = M c j := by
  obtain ⟨v, hK⟩ : ∃ v, ((x).2) c j = v := ⟨_, rfl⟩
  rw [hK]
  refine Eq.symm ?_
  have hz := fg_193_4 hfor hc hx hK
  exact (Eq.refl _).symm.trans hz
theorem fg_192 {M : eM} {c j : Nat} (hfor : c = 45) {a : Int} {b : Int} {x : Int × eM} (hx : fn_192 a b M = some x) (hc : j ∉ ([28, 29, 38, 41, 43, 45, 48, 59, 62, 63, 64, 66, 67, 69, 70] : List Nat)) : ((x).2) c j = M c j := by
  obtain ⟨v, hK⟩ : ∃ v, ((x).2) c j = v := ⟨_, rfl⟩
  rw [hK]
  refine Eq.symm ?_
  obtain ⟨r2, h1, hx⟩ := vb_bind hx
  have hx := Option.some.inj hx
  subst hx
  exact ((eg_u_nj (fun z => vne hc (a := 63) (by decide) z.2)).trans ((eg_u_nj (fun z => vne hc (a := 62) (by decide) z.2)).trans ((eg_u_nj (fun z => vne hc (a := 59) (by decide) z.2)).trans ((fg_193 hfor h1 (vsub hc (by decide))).trans ((eg_u_nj (fun z => vne hc (a := 59) (by decide) z.2)).trans ((eg_u_nj (fun z => vne hc (a := 62) (by decide) z.2)).trans rfl)))))).symm.trans hK
theorem fg_209 {M : eM} {c j : Nat} (hfor : c = 45) {a : Int} {b : Int} {e : Int} {f : Int} {x : eM} (hx : fn_209 a b e f M = some x) (hc : j ∉ ([53] : List Nat)) : x c j = M c j := by
  obtain ⟨v, hK⟩ : ∃ v, x c j = v := ⟨_, rfl⟩
  rw [hK]
  refine Eq.symm ?_
  obtain ⟨_, hx⟩ := vb_if hx
  have hx := Option.some.inj hx
  subst hx
  exact ((eg_u_nj (fun z => vne hc (a := 53) (by decide) z.2)).trans ((congrFun (eg_u_ne (vn45 hfor (a := 81) (by decide))) j).trans ((congrFun (eg_u_ne (vn45 hfor (a := 80) (by decide))) j).trans ((congrFun (eg_u_ne (vn45 hfor (a := 82) (by decide))) j).trans ((congrFun (eg_u_ne (vn45 hfor (a := 79) (by decide))) j).trans ((congrFun (eg_u_ne (vn45 hfor (a := 78) (by decide))) j).trans rfl)))))).symm.trans hK
theorem fg_191 {M : eM} {c j : Nat} (hfor : c = 45) {a : Int} {b : Int} {x : Int × eM} (hx : fn_191 a b M = some x) (hc : j ∉ ([28, 29, 38, 41, 43, 45, 48, 53, 59, 62, 63, 64, 66, 67, 69, 70] : List Nat)) : ((x).2) c j = M c j := by
  obtain ⟨v, hK⟩ : ∃ v, ((x).2) c j = v := ⟨_, rfl⟩
  rw [hK]
  refine Eq.symm ?_
  obtain ⟨r2, h1, hx⟩ := vb_bind hx
  refine vb_ite hx (fun _ hx => ?_) (fun _ hx => ?_)
  · obtain ⟨r5, h4, hx⟩ := vb_bind hx
    obtain ⟨r8, h7, hx⟩ := vb_bind hx
    have hx := Option.some.inj hx
    subst hx
    exact ((fg_192 hfor h7 (vsub hc (by decide))).trans rfl).symm.trans hK
  refine vb_ite hx (fun _ hx => ?_) (fun _ hx => ?_)
  · obtain ⟨r11, h10, hx⟩ := vb_bind hx
    obtain ⟨m15, h13, hx⟩ := vb_bind hx
    have hx := Option.some.inj hx
    subst hx
    exact ((fg_209 hfor h13 (vsub hc (by decide))).trans rfl).symm.trans hK
  refine vb_ite hx (fun _ hx => ?_) (fun _ hx => ?_)
  · obtain ⟨r17, h16, hx⟩ := vb_bind hx
    obtain ⟨_, hx⟩ := vb_if hx
    obtain ⟨m22, h20, hx⟩ := vb_bind hx
    have hx := Option.some.inj hx
    subst hx
    exact ((fg_209 hfor h20 (vsub hc (by decide))).trans rfl).symm.trans hK
  refine vb_ite hx (fun _ hx => ?_) (fun _ hx => ?_)
  · obtain ⟨r24, h23, hx⟩ := vb_bind hx
    obtain ⟨_, hx⟩ := vb_if hx
    obtain ⟨m29, h27, hx⟩ := vb_bind hx
    have hx := Option.some.inj hx
    subst hx
    exact ((fg_209 hfor h27 (vsub hc (by decide))).trans rfl).symm.trans hK
  refine vb_ite hx (fun _ hx => ?_) (fun _ hx => ?_)
  · obtain ⟨r31, h30, hx⟩ := vb_bind hx
    refine vb_ite hx (fun _ hx => ?_) (fun _ hx => ?_)
    · obtain ⟨r35, h34, hx⟩ := vb_bind hx
      obtain ⟨_, hx⟩ := vb_if hx
      have hx := Option.some.inj hx
      subst hx
      exact ((congrFun (eg_u_ne (vn45 hfor (a := 64) (by decide))) j).trans ((eg_u_nj (fun z => vne hc (a := 62) (by decide) z.2)).trans ((eg_u_nj (fun z => vne hc (a := 70) (by decide) z.2)).trans ((fg_195 hfor h30 (vsub hc (by decide))).trans ((eg_u_nj (fun z => vne hc (a := 62) (by decide) z.2)).trans rfl))))).symm.trans hK
    · obtain ⟨r39, h38, hx⟩ := vb_bind hx
      have hx := Option.some.inj hx
      subst hx
      exact ((fg_185 hfor h38 (vsub hc (by decide))).trans ((eg_u_nj (fun z => vne hc (a := 62) (by decide) z.2)).trans ((eg_u_nj (fun z => vne hc (a := 70) (by decide) z.2)).trans ((fg_195 hfor h30 (vsub hc (by decide))).trans ((eg_u_nj (fun z => vne hc (a := 62) (by decide) z.2)).trans rfl))))).symm.trans hK
  refine vb_ite hx (fun _ hx => ?_) (fun _ hx => ?_)
  · obtain ⟨r42, h41, hx⟩ := vb_bind hx
    obtain ⟨_, hx⟩ := vb_if hx
    obtain ⟨m47, h45, hx⟩ := vb_bind hx
    have hx := Option.some.inj hx
    subst hx
    exact ((fg_209 hfor h45 (vsub hc (by decide))).trans rfl).symm.trans hK
  refine vb_ite hx (fun _ hx => ?_) (fun _ hx => ?_)
  · obtain ⟨r49, h48, hx⟩ := vb_bind hx
    obtain ⟨m53, h51, hx⟩ := vb_bind hx
    have hx := Option.some.inj hx
    subst hx
    exact ((fg_209 hfor h51 (vsub hc (by decide))).trans rfl).symm.trans hK
  refine vb_ite hx (fun _ hx => ?_) (fun _ hx => ?_)
  · obtain ⟨r55, h54, hx⟩ := vb_bind hx
    obtain ⟨m59, h57, hx⟩ := vb_bind hx
    have hx := Option.some.inj hx
    subst hx
    exact ((fg_209 hfor h57 (vsub hc (by decide))).trans rfl).symm.trans hK
  refine vb_ite hx (fun _ hx => ?_) (fun _ hx => ?_)
  · obtain ⟨r61, h60, hx⟩ := vb_bind hx
    obtain ⟨m65, h63, hx⟩ := vb_bind hx
    have hx := Option.some.inj hx
    subst hx
    exact ((fg_209 hfor h63 (vsub hc (by decide))).trans rfl).symm.trans hK
  refine vb_ite hx (fun _ hx => ?_) (fun _ hx => ?_)
  · obtain ⟨r67, h66, hx⟩ := vb_bind hx
    obtain ⟨m71, h69, hx⟩ := vb_bind hx
    have hx := Option.some.inj hx
    subst hx
    exact ((fg_209 hfor h69 (vsub hc (by decide))).trans rfl).symm.trans hK
  obtain ⟨_, hx⟩ := vb_if hx
  obtain ⟨m75, h73, hx⟩ := vb_bind hx
  have hx := Option.some.inj hx
  subst hx
  exact ((fg_209 hfor h73 (vsub hc (by decide))).trans rfl).symm.trans hK
theorem fg_184 {M : eM} {c j : Nat} (hfor : c = 45) {a : Int} {b : Int} {x : Int × eM} (hx : fn_184 a b M = some x) (hc : j ∉ ([28, 29, 38, 41, 43, 45, 48, 53, 59, 62, 63, 64, 66, 67, 69, 70] : List Nat)) : ((x).2) c j = M c j := by
  obtain ⟨v, hK⟩ : ∃ v, ((x).2) c j = v := ⟨_, rfl⟩
  rw [hK]
  refine Eq.symm ?_
  refine vb_ite hx (fun _ hx => ?_) (fun _ hx => ?_)
  · obtain ⟨_, hx⟩ := vb_if hx
    refine vb_ite hx (fun _ hx => ?_) (fun _ hx => ?_)
    · have hx := Option.some.inj hx
      subst hx
      exact ((eg_u_nj (fun z => vne hc (a := 70) (by decide) z.2)).trans ((eg_u_nj (fun z => vne hc (a := 67) (by decide) z.2)).trans rfl)).symm.trans hK
    refine vb_ite hx (fun _ hx => ?_) (fun _ hx => ?_)
    · refine vb_ite hx (fun _ hx => ?_) (fun _ hx => ?_)
      · have hx := Option.some.inj hx
        subst hx
        exact ((eg_u_nj (fun z => vne hc (a := 70) (by decide) z.2)).trans ((eg_u_nj (fun z => vne hc (a := 67) (by decide) z.2)).trans rfl)).symm.trans hK
      · have hx := Option.some.inj hx
        subst hx
        exact ((eg_u_nj (fun z => vne hc (a := 70) (by decide) z.2)).trans ((eg_u_nj (fun z => vne hc (a := 67) (by decide) z.2)).trans rfl)).symm.trans hK
    refine vb_ite hx (fun _ hx => ?_) (fun _ hx => ?_)
    · refine vb_ite hx (fun _ hx => ?_) (fun _ hx => ?_)
      · have hx := Option.some.inj hx
        subst hx
        exact ((eg_u_nj (fun z => vne hc (a := 70) (by decide) z.2)).trans ((eg_u_nj (fun z => vne hc (a := 67) (by decide) z.2)).trans rfl)).symm.trans hK
      · have hx := Option.some.inj hx
        subst hx
        exact ((eg_u_nj (fun z => vne hc (a := 70) (by decide) z.2)).trans ((eg_u_nj (fun z => vne hc (a := 67) (by decide) z.2)).trans rfl)).symm.trans hK
    refine vb_ite hx (fun _ hx => ?_) (fun _ hx => ?_)
    · obtain ⟨r10, h9, hx⟩ := vb_bind hx
      refine vb_ite hx (fun _ hx => ?_) (fun _ hx => ?_)
      · obtain ⟨_, hx⟩ := vb_if hx
        refine vb_ite hx (fun _ hx => ?_) (fun _ hx => ?_)
        · have hx := Option.some.inj hx
          subst hx
          exact ((eg_u_nj (fun z => vne hc (a := 70) (by decide) z.2)).trans ((eg_u_nj (fun z => vne hc (a := 67) (by decide) z.2)).trans rfl)).symm.trans hK
        · obtain ⟨r17, h16, hx⟩ := vb_bind hx
          have hx := Option.some.inj hx
          subst hx
          exact ((fg_185 hfor h16 (vsub hc (by decide))).trans ((eg_u_nj (fun z => vne hc (a := 70) (by decide) z.2)).trans ((eg_u_nj (fun z => vne hc (a := 67) (by decide) z.2)).trans rfl))).symm.trans hK
      · obtain ⟨r20, h19, hx⟩ := vb_bind hx
        obtain ⟨_, hx⟩ := vb_if hx
        obtain ⟨r25, h24, hx⟩ := vb_bind hx
        obtain ⟨r28, h27, hx⟩ := vb_bind hx
        refine vb_ite hx (fun _ hx => ?_) (fun _ hx => ?_)
        · have hx := Option.some.inj hx
          subst hx
          exact ((eg_u_nj (fun z => vne hc (a := 70) (by decide) z.2)).trans ((eg_u_nj (fun z => vne hc (a := 67) (by decide) z.2)).trans rfl)).symm.trans hK
        · obtain ⟨r32, h31, hx⟩ := vb_bind hx
          have hx := Option.some.inj hx
          subst hx
          exact ((fg_185 hfor h31 (vsub hc (by decide))).trans ((eg_u_nj (fun z => vne hc (a := 70) (by decide) z.2)).trans ((eg_u_nj (fun z => vne hc (a := 67) (by decide) z.2)).trans rfl))).symm.trans hK
    obtain ⟨r35, h34, hx⟩ := vb_bind hx
    have hx := Option.some.inj hx
    subst hx
    exact ((fg_191 hfor h34 (vsub hc (by decide))).trans ((eg_u_nj (fun z => vne hc (a := 67) (by decide) z.2)).trans rfl)).symm.trans hK
  · obtain ⟨r38, h37, hx⟩ := vb_bind hx
    have hx := Option.some.inj hx
    subst hx
    exact ((fg_185 hfor h37 (vsub hc (by decide))).trans rfl).symm.trans hK
theorem fg_214 {M : eM} {c j : Nat} (hfor : c = 45) {x : eM} (hx : fn_214 M = some x) (hc : j ∉ ([51, 53] : List Nat)) : x c j = M c j := by
  obtain ⟨v, hK⟩ : ∃ v, x c j = v := ⟨_, rfl⟩
  rw [hK]
  refine Eq.symm ?_
  obtain ⟨_, hx⟩ := vb_if hx
  have hx := Option.some.inj hx
  subst hx
  exact ((eg_u_nj (fun z => vne hc (a := 51) (by decide) z.2)).trans ((eg_u_nj (fun z => vne hc (a := 53) (by decide) z.2)).trans rfl)).symm.trans hK
theorem fg_213 {M : eM} {c j : Nat} (hfor : c = 45) {a : Int} {x : Int × eM} (hx : fn_213 a M = some x) (hc : j ∉ ([51, 53, 70] : List Nat)) : ((x).2) c j = M c j := by
  obtain ⟨v, hK⟩ : ∃ v, ((x).2) c j = v := ⟨_, rfl⟩
  rw [hK]
  refine Eq.symm ?_
  obtain ⟨m3, h1, hx⟩ := vb_bind hx
  have hx := Option.some.inj hx
  subst hx
  exact ((eg_u_nj (fun z => vne hc (a := 70) (by decide) z.2)).trans ((fg_214 hfor h1 (vsub hc (by decide))).trans rfl)).symm.trans hK
theorem fg_212_24 {M : eM} {c j : Nat} (hfor : c = 45) {v : Int} {x1 : Int} {y0 : Int} {x : Int × eM} (hc : j ∉ ([51, 53, 70] : List Nat)) (hx : fn_212_24 x1 y0 M = some x) (hK : (fun (x : Int × eM) => ((x).2) c j = v) x) : M c j = v := by
  refine vb_ite hx (fun _ hx => ?_) (fun _ hx => ?_)
  · obtain ⟨_, hx⟩ := vb_if hx
    have hx := Option.some.inj hx
    subst hx
    exact ((congrFun (eg_u_ne (vn45 hfor (a := 78) (by decide))) j).trans ((congrFun (eg_u_ne (vn45 hfor (a := 80) (by decide))) j).trans rfl)).symm.trans hK
  · obtain ⟨r9, h8, hx⟩ := vb_bind hx
    have hx := Option.some.inj hx
    subst hx
    exact ((fg_213 hfor h8 (vsub hc (by decide))).trans rfl).symm.trans hK
theorem fg_212 {M : eM} {c j : Nat} (hfor : c = 45) {x : Int × eM} (hx : fn_212 M = some x) (hc : j ∉ ([51, 53, 70] : List Nat)) : ((x).2) c j = M c j := by
  obtain ⟨v, hK⟩ : ∃ v, ((x).2) c j = v := ⟨_, rfl⟩
  rw [hK]
  refine Eq.symm ?_
  obtain ⟨_, hx⟩ := vb_if hx
  obtain ⟨_, hx⟩ := vb_if hx
  refine vb_ite hx (fun _ hx => ?_) (fun _ hx => ?_)
  · obtain ⟨_, hx⟩ := vb_if hx
    have hz := fg_212_24 hfor hc hx hK
    exact (Eq.refl _).symm.trans hz
  · have hz := fg_212_24 hfor hc hx hK
    exact (Eq.refl _).symm.trans hz
theorem fg_215_56 {M : eM} {c j : Nat} (hfor : c = 45) {v : Int} {x1 : Int} {x2 : Int} {x4 : Int} {x7 : Int} {x : Int × eM} (hc : j ∉ ([51, 53, 69, 70] : List Nat)) (hx : fn_215_56 x1 x2 x4 x7 M = some x) (hK : (fun (x : Int × eM) => ((x).2) c j = v) x) : M c j = v := by
  refine vb_ite hx (fun _ hx => ?_) (fun _ hx => ?_)
  · obtain ⟨r14, h13, hx⟩ := vb_bind hx
    obtain ⟨_, hx⟩ := vb_if hx
    obtain ⟨r18, h17, hx⟩ := vb_bind hx
    obtain ⟨m22, h20, hx⟩ := vb_bind hx
    obtain ⟨r24, h23, hx⟩ := vb_bind hx
    have hx := Option.some.inj hx
    subst hx
    exact ((fg_213 hfor h23 (vsub hc (by decide))).trans ((fg_205 hfor h20 (vsub hc (by decide))).trans rfl)).symm.trans hK
  · obtain ⟨_, hx⟩ := vb_if hx
    obtain ⟨r28, h27, hx⟩ := vb_bind hx
    have hx := Option.some.inj hx
    subst hx
    exact ((fg_213 hfor h27 (vsub hc (by decide))).trans ((congrFun (eg_u_ne (vn45 hfor (a := 72) (by decide))) j).trans rfl)).symm.trans hK
theorem fg_215 {M : eM} {c j : Nat} (hfor : c = 45) {a : Int} {x : Int × eM} (hx : fn_215 a M = some x) (hc : j ∉ ([51, 53, 69, 70] : List Nat)) : ((x).2) c j = M c j := by
  obtain ⟨v, hK⟩ : ∃ v, ((x).2) c j = v := ⟨_, rfl⟩
  rw [hK]
  refine Eq.symm ?_
  obtain ⟨r2, h1, hx⟩ := vb_bind hx
  obtain ⟨_, hx⟩ := vb_if hx
  obtain ⟨_, hx⟩ := vb_if hx
  refine vb_ite hx (fun _ hx => ?_) (fun _ hx => ?_)
  · obtain ⟨r9, h8, hx⟩ := vb_bind hx
    refine vb_ite hx (fun _ hx => ?_) (fun _ hx => ?_)
    · have hz := fg_215_56 hfor hc hx hK
      exact (Eq.refl _).symm.trans hz
    · obtain ⟨_, hx⟩ := vb_if hx
      refine vb_ite hx (fun _ hx => ?_) (fun _ hx => ?_)
      · have hz := fg_215_56 hfor hc hx hK
        exact (Eq.refl _).symm.trans hz
      · obtain ⟨r33, h32, hx⟩ := vb_bind hx
        have hx := Option.some.inj hx
        subst hx
        exact ((fg_185 hfor h32 (vsub hc (by decide))).trans rfl).symm.trans hK
  · obtain ⟨_, hx⟩ := vb_if hx
    obtain ⟨r37, h36, hx⟩ := vb_bind hx
    have hx := Option.some.inj hx
    subst hx
    exact ((fg_213 hfor h36 (vsub hc (by decide))).trans ((congrFun (eg_u_ne (vn45 hfor (a := 72) (by decide))) j).trans rfl)).symm.trans hK
theorem fg_217 {M : eM} {c j : Nat} (hfor : c = 45) {a : Int} {x : eM} (hx : fn_217 a M = some x) (hc : j ∉ ([51] : List Nat)) : x c j = M c j := by
  obtain ⟨v, hK⟩ : ∃ v, x c j = v := ⟨_, rfl⟩
  rw [hK]
  refine Eq.symm ?_
  obtain ⟨_, hx⟩ := vb_if hx
  have hx := Option.some.inj hx
  subst hx
  exact ((eg_u_nj (fun z => vne hc (a := 51) (by decide) z.2)).trans ((congrFun (eg_u_ne (vn45 hfor (a := 77) (by decide))) j).trans rfl)).symm.trans hK
theorem fg_216_65 {c j : Nat} (hfor : c = 45) {v : Int} {x1 : Int} {x2 : Int} {x3 : Int} {x4 : Int} {x5 : Int} {s : Int × eM} {x : Int × eM} (hc : j ∉ ([28, 29, 38, 41, 43, 45, 48, 51, 64, 66, 67, 69] : List Nat)) (hx : lp (fun z => fn_216_65 x1 x2 x3 x4 x5 z.1 z.2) s = some x) (hK : (fun (x : Int × eM) => ((x).2) c j = v) x) : s.2 c j = v := by
  refine lp_sound (P := (fun (s : Int × eM) => s.2 c j = v)) (K := (fun (x : Int × eM) => ((x).2) c j = v)) hx hK ?_
  intro s x hx hK
  obtain ⟨s1, s2⟩ := s
  refine vb_ite hx (fun _ hx => ?_) (fun _ hx => ?_)
  · obtain ⟨_, hx⟩ := vb_if hx
    obtain ⟨r19, h18, hx⟩ := vb_bind hx
    obtain ⟨_, hx⟩ := vb_if hx
    have hx := Option.some.inj hx
    subst hx
    exact ((congrFun (eg_u_ne (vn45 hfor (a := 80) (by decide))) j).trans ((congrFun (eg_u_ne (vn45 hfor (a := 82) (by decide))) j).trans ((congrFun (eg_u_ne (vn45 hfor (a := 78) (by decide))) j).trans ((eg_u_nj (fun z => vne hc (a := 51) (by decide) z.2)).trans rfl)))).symm.trans hK
  · obtain ⟨_, hx⟩ := vb_if hx
    obtain ⟨_, hx⟩ := vb_if hx
    obtain ⟨m27, h25, hx⟩ := vb_bind hx
    have hx := Option.some.inj hx
    subst hx
    exact ((fg_205 hfor h25 (vsub hc (by decide))).trans rfl).symm.trans hK
theorem fg_216_22 {M : eM} {c j : Nat} (hfor : c = 45) {v : Int} {x1 : Int} {x2 : Int} {x3 : Int} {x : Int × eM} (hc : j ∉ ([28, 29, 38, 41, 43, 45, 48, 51, 64, 66, 67, 69] : List Nat)) (hx : fn_216_22 x1 x2 x3 M = some x) (hK : (fun (x : Int × eM) => ((x).2) c j = v) x) : M c j = v := by
  obtain ⟨_, hx⟩ := vb_if hx
  refine vb_ite hx (fun _ hx => ?_) (fun _ hx => ?_)
  · obtain ⟨r7, h6, hx⟩ := vb_bind hx
    refine vb_ite hx (fun _ hx => ?_) (fun _ hx => ?_)
    · obtain ⟨r11, h10, hx⟩ := vb_bind hx
      obtain ⟨_, hx⟩ := vb_if hx
      have hz := fg_216_65 hfor hc hx hK
      exact ((congrFun (eg_u_ne (vn45 hfor (a := 64) (by decide))) j).trans ((fg_195 hfor h6 (vsub hc (by decide))).trans rfl)).symm.trans hz
    · obtain ⟨r29, h28, hx⟩ := vb_bind hx
      have hx := Option.some.inj hx
      subst hx
      exact ((fg_185 hfor h28 (vsub hc (by decide))).trans ((fg_195 hfor h6 (vsub hc (by decide))).trans rfl)).symm.trans hK
  · have hx := Option.some.inj hx
    subst hx
    exact (Eq.refl _).symm.trans hK
theorem fg_216 {M : eM} {c j : Nat} (hfor : c = 45) {a : Int} {b : Int} {x : Int × eM} (hx : fn_216 a b M = some x) (hc : j ∉ ([28, 29, 38, 41, 43, 45, 48, 51, 64, 66, 67, 69] : List Nat)) : ((x).2) c j = M c j := by
  obtain ⟨v, hK⟩ : ∃ v, ((x).2) c j = v := ⟨_, rfl⟩
  rw [hK]
  refine Eq.symm ?_
  refine vb_ite hx (fun _ hx => ?_) (fun _ hx => ?_)
  · have hz := fg_216_22 hfor hc hx hK
    exact (Eq.refl _).symm.trans hz
  · obtain ⟨m33, h31, hx⟩ := vb_bind hx
    obtain ⟨_, hx⟩ := vb_if hx
    obtain ⟨_, hx⟩ := vb_if hx
    have hz := fg_216_22 hfor hc hx hK
    exact ((congrFun (eg_u_ne (vn45 hfor (a := 80) (by decide))) j).trans ((fg_217 hfor h31 (vsub hc (by decide))).trans rfl)).symm.trans hz
theorem fg_218 {M : eM} {c j : Nat} (hfor : c = 45) {x : Int × eM} (hx : fn_218 M = some x) (hc : j ∉ ([51, 53, 68, 70] : List Nat)) : ((x).2) c j = M c j := by
  obtain ⟨v, hK⟩ : ∃ v, ((x).2) c j = v := ⟨_, rfl⟩
  rw [hK]
  refine Eq.symm ?_
  obtain ⟨_, hx⟩ := vb_if hx
  obtain ⟨_, hx⟩ := vb_if hx
  refine vb_ite hx (fun _ hx => ?_) (fun _ hx => ?_)
  · have hx := Option.some.inj hx
    subst hx
    exact ((congrFun (eg_u_ne (vn45 hfor (a := 80) (by decide))) j).trans rfl).symm.trans hK
  · refine vb_ite hx (fun _ hx => ?_) (fun _ hx => ?_)
    · obtain ⟨r8, h7, hx⟩ := vb_bind hx
      have hx := Option.some.inj hx
      subst hx
      exact ((fg_213 hfor h7 (vsub hc (by decide))).trans rfl).symm.trans hK
    · obtain ⟨r11, h10, hx⟩ := vb_bind hx
      have hx := Option.some.inj hx
      subst hx
      exact ((fg_213 hfor h10 (vsub hc (by decide))).trans ((eg_u_nj (fun z => vne hc (a := 68) (by decide) z.2)).trans rfl)).symm.trans hK
theorem fg_219_22 {M : eM} {c j : Nat} (hfor : c = 45) {v : Int} {x1 : Int} {x2 : Int} {x : Int × eM} (hc : j ∉ ([51, 53, 70] : List Nat)) (hx : fn_219_22 x1 x2 M = some x) (hK : (fun (x : Int × eM) => ((x).2) c j = v) x) : M c j = v := by
  obtain ⟨_, hx⟩ := vb_if hx
  refine vb_ite hx (fun _ hx => ?_) (fun _ hx => ?_)
  · obtain ⟨_, hx⟩ := vb_if hx
    have hx := Option.some.inj hx
    subst hx
    exact ((congrFun (eg_u_ne (vn45 hfor (a := 80) (by decide))) j).trans rfl).symm.trans hK
  · obtain ⟨r10, h9, hx⟩ := vb_bind hx
    obtain ⟨_, hx⟩ := vb_if hx
    have hx := Option.some.inj hx
    subst hx
    exact ((congrFun (eg_u_ne (vn45 hfor (a := 80) (by decide))) j).trans rfl).symm.trans hK
theorem fg_219 {M : eM} {c j : Nat} (hfor : c = 45) {a : Int} {x : Int × eM} (hx : fn_219 a M = some x) (hc : j ∉ ([51, 53, 70] : List Nat)) : ((x).2) c j = M c j := by
  obtain ⟨v, hK⟩ : ∃ v, ((x).2) c j = v := ⟨_, rfl⟩
  rw [hK]
  refine Eq.symm ?_
  obtain ⟨_, hx⟩ := vb_if hx
  obtain ⟨r3, h2, hx⟩ := vb_bind hx
  refine vb_ite hx (fun _ hx => ?_) (fun _ hx => ?_)
  · have hz := fg_219_22 hfor hc hx hK
    exact (Eq.refl _).symm.trans hz
  · refine vb_ite hx (fun _ hx => ?_) (fun _ hx => ?_)
    · have hz := fg_219_22 hfor hc hx hK
      exact (Eq.refl _).symm.trans hz
    · obtain ⟨r15, h14, hx⟩ := vb_bind hx
      have hx := Option.some.inj hx
      subst hx
      exact ((fg_213 hfor h14 (vsub hc (by decide))).trans rfl).symm.trans hK
theorem fg_220_54 {M : eM} {c j : Nat} (hfor : c = 45) {v : Int} {x1 : Int} {x2 : Int} {y0 : Int} {x : Int × eM} (hc : j ∉ ([51, 53, 70] : List Nat)) (hx : fn_220_54 x1 x2 y0 M = some x) (hK : (fun (x : Int × eM) => ((x).2) c j = v) x) : M c j = v := by
  obtain ⟨_, hx⟩ := vb_if hx
  refine vb_ite hx (fun _ hx => ?_) (fun _ hx => ?_)
  · obtain ⟨r10, h9, hx⟩ := vb_bind hx
    have hx := Option.some.inj hx
    subst hx
    exact ((fg_213 hfor h9 (vsub hc (by decide))).trans rfl).symm.trans hK
  · refine vb_ite hx (fun _ hx => ?_) (fun _ hx => ?_)
    · obtain ⟨_, hx⟩ := vb_if hx
      have hx := Option.some.inj hx
      subst hx
      exact ((congrFun (eg_u_ne (vn45 hfor (a := 80) (by decide))) j).trans rfl).symm.trans hK
    · obtain ⟨r15, h14, hx⟩ := vb_bind hx
      have hx := Option.some.inj hx
      subst hx
      exact ((fg_213 hfor h14 (vsub hc (by decide))).trans rfl).symm.trans hK
theorem fg_220_20 {M : eM} {c j : Nat} (hfor : c = 45) {v : Int} {x1 : Int} {x2 : Int} {y0 : Int} {x : Int × eM} (hc : j ∉ ([51, 53, 70] : List Nat)) (hx : fn_220_20 x1 x2 y0 M = some x) (hK : (fun (x : Int × eM) => ((x).2) c j = v) x) : M c j = v := by
  refine vb_ite hx (fun _ hx => ?_) (fun _ hx => ?_)
  · refine vb_ite hx (fun _ hx => ?_) (fun _ hx => ?_)
    · refine vb_ite hx (fun _ hx => ?_) (fun _ hx => ?_)
      · have hz := fg_220_54 hfor hc hx hK
        exact (Eq.refl _).symm.trans hz
      · have hz := fg_220_54 hfor hc hx hK
        exact (Eq.refl _).symm.trans hz
    · refine vb_ite hx (fun _ hx => ?_) (fun _ hx => ?_)
      · have hz := fg_220_54 hfor hc hx hK
        exact (Eq.refl _).symm.trans hz
      · have hz := fg_220_54 hfor hc hx hK
        exact (Eq.refl _).symm.trans hz
  · refine vb_ite hx (fun _ hx => ?_) (fun _ hx => ?_)
    · have hx := Option.some.inj hx
      subst hx
      exact (Eq.refl _).symm.trans hK
    · refine vb_ite hx (fun _ hx => ?_) (fun _ hx => ?_)
      · obtain ⟨r21, h20, hx⟩ := vb_bind hx
        have hx := Option.some.inj hx
        subst hx
        exact ((fg_213 hfor h20 (vsub hc (by decide))).trans rfl).symm.trans hK
      · obtain ⟨r24, h23, hx⟩ := vb_bind hx
        have hx := Option.some.inj hx
        subst hx
        exact ((fg_213 hfor h23 (vsub hc (by decide))).trans rfl).symm.trans hK
theorem fg_220 {M : eM} {c j : Nat} (hfor : c = 45) {a : Int} {x : Int × eM} (hx : fn_220 a M = some x) (hc : j ∉ ([51, 53, 70] : List Nat)) : ((x).2) c j = M c j := by
  obtain ⟨v, hK⟩ : ∃ v, ((x).2) c j = v := ⟨_, rfl⟩
  rw [hK]
  refine Eq.symm ?_
  obtain ⟨_, hx⟩ := vb_if hx
  refine vb_ite hx (fun _ hx => ?_) (fun _ hx => ?_)
  · have hz := fg_220_20 hfor hc hx hK
    exact (Eq.refl _).symm.trans hz
  · have hz := fg_220_20 hfor hc hx hK
    exact (Eq.refl _).symm.trans hz
theorem fg_224_42 {c j : Nat} (hfor : c = 45) {v : Int} {x1 : Int} {x3 : Int} {x4 : Int} {x5 : Int} {x7 : Int} {s : Int × eM} {x : Int × eM} (hc : j ∉ ([28, 29, 38, 41, 43, 45, 48, 51, 53, 64, 66, 67, 68, 69] : List Nat)) (hx : lp (fun z => fn_224_42 x1 x3 x4 x5 x7 z.1 z.2) s = some x) (hK : (fun (x : Int × eM) => ((x).2) c j = v) x) : s.2 c j = v := by
  refine lp_sound (P := (fun (s : Int × eM) => s.2 c j = v)) (K := (fun (x : Int × eM) => ((x).2) c j = v)) hx hK ?_
  intro s x hx hK
  obtain ⟨s1, s2⟩ := s
  refine vb_ite hx (fun _ hx => ?_) (fun _ hx => ?_)
  · obtain ⟨_, hx⟩ := vb_if hx
    obtain ⟨r20, h19, hx⟩ := vb_bind hx
    obtain ⟨_, hx⟩ := vb_if hx
    obtain ⟨m25, h23, hx⟩ := vb_bind hx
    have hx := Option.some.inj hx
    subst hx
    exact ((fg_209 hfor h23 (vsub hc (by decide))).trans ((eg_u_nj (fun z => vne hc (a := 68) (by decide) z.2)).trans ((congrFun (eg_u_ne (vn45 hfor (a := 80) (by decide))) j).trans ((eg_u_nj (fun z => vne hc (a := 51) (by decide) z.2)).trans rfl)))).symm.trans hK
  · obtain ⟨_, hx⟩ := vb_if hx
    obtain ⟨m29, h27, hx⟩ := vb_bind hx
    have hx := Option.some.inj hx
    subst hx
    exact ((fg_205 hfor h27 (vsub hc (by decide))).trans rfl).symm.trans hK
theorem fg_224 {M : eM} {c j : Nat} (hfor : c = 45) {a : Int} {b : Int} {e : Int} {x : Int × eM} (hx : fn_224 a b e M = some x) (hc : j ∉ ([28, 29, 38, 41, 43, 45, 48, 51, 53, 64, 66, 67, 68, 69] : List Nat)) : ((x).2) c j = M c j := by
  obtain ⟨v, hK⟩ : ∃ v, ((x).2) c j = v := ⟨_, rfl⟩
  rw [hK]
  refine Eq.symm ?_
  refine vb_ite hx (fun _ hx => ?_) (fun _ hx => ?_)
  · obtain ⟨r3, h2, hx⟩ := vb_bind hx
    obtain ⟨r6, h5, hx⟩ := vb_bind hx
    refine vb_ite hx (fun _ hx => ?_) (fun _ hx => ?_)
    · obtain ⟨r10, h9, hx⟩ := vb_bind hx
      obtain ⟨_, hx⟩ := vb_if hx
      obtain ⟨r14, h13, hx⟩ := vb_bind hx
      obtain ⟨_, hx⟩ := vb_if hx
      have hz := fg_224_42 hfor hc hx hK
      exact ((congrFun (eg_u_ne (vn45 hfor (a := 64) (by decide))) j).trans ((fg_195 hfor h5 (vsub hc (by decide))).trans rfl)).symm.trans hz
    · obtain ⟨r31, h30, hx⟩ := vb_bind hx
      have hx := Option.some.inj hx
      subst hx
      exact ((fg_185 hfor h30 (vsub hc (by decide))).trans ((fg_195 hfor h5 (vsub hc (by decide))).trans rfl)).symm.trans hK
  · obtain ⟨r34, h33, hx⟩ := vb_bind hx
    have hx := Option.some.inj hx
    subst hx
    exact ((fg_185 hfor h33 (vsub hc (by decide))).trans rfl).symm.trans hK
theorem fg_229 {M : eM} {c j : Nat} (hfor : c = 45) {a : Int} {x : Int × eM} (hx : fn_229 a M = some x) (hc : j ∉ ([70] : List Nat)) : ((x).2) c j = M c j := by
  obtain ⟨v, hK⟩ : ∃ v, ((x).2) c j = v := ⟨_, rfl⟩
  rw [hK]
  refine Eq.symm ?_
  have hx := Option.some.inj hx
  subst hx
  exact ((eg_u_nj (fun z => vne hc (a := 70) (by decide) z.2)).trans rfl).symm.trans hK
theorem fg_227_28 {M : eM} {c j : Nat} (hfor : c = 45) {v : Int} {x1 : Int} {x2 : Int} {x4 : Int} {x6 : Int} {x7 : Int} {x : Int × eM} (hc : j ∉ ([69, 70] : List Nat)) (hx : fn_227_28 x1 x2 x4 x6 x7 M = some x) (hK : (fun (x : Int × eM) => ((x).2) c j = v) x) : M c j = v := by
  refine vb_ite hx (fun _ hx => ?_) (fun _ hx => ?_)
  · obtain ⟨r15, h14, hx⟩ := vb_bind hx
    have hx := Option.some.inj hx
    subst hx
    exact ((fg_229 hfor h14 (vsub hc (by decide))).trans rfl).symm.trans hK
  refine vb_ite hx (fun _ hx => ?_) (fun _ hx => ?_)
  · obtain ⟨r18, h17, hx⟩ := vb_bind hx
    have hx := Option.some.inj hx
    subst hx
    exact ((fg_229 hfor h17 (vsub hc (by decide))).trans rfl).symm.trans hK
  refine vb_ite hx (fun _ hx => ?_) (fun _ hx => ?_)
  · obtain ⟨r21, h20, hx⟩ := vb_bind hx
    have hx := Option.some.inj hx
    subst hx
    exact ((fg_229 hfor h20 (vsub hc (by decide))).trans rfl).symm.trans hK
  refine vb_ite hx (fun _ hx => ?_) (fun _ hx => ?_)
  · obtain ⟨_, hx⟩ := vb_if hx
    obtain ⟨r25, h24, hx⟩ := vb_bind hx
    have hx := Option.some.inj hx
    subst hx
    exact ((fg_229 hfor h24 (vsub hc (by decide))).trans rfl).symm.trans hK
  refine vb_ite hx (fun _ hx => ?_) (fun _ hx => ?_)
  · obtain ⟨_, hx⟩ := vb_if hx
    obtain ⟨r29, h28, hx⟩ := vb_bind hx
    have hx := Option.some.inj hx
    subst hx
    exact ((fg_229 hfor h28 (vsub hc (by decide))).trans rfl).symm.trans hK
  refine vb_ite hx (fun _ hx => ?_) (fun _ hx => ?_)
  · refine vb_ite hx (fun _ hx => ?_) (fun _ hx => ?_)
    · obtain ⟨r33, h32, hx⟩ := vb_bind hx
      have hx := Option.some.inj hx
      subst hx
      exact ((fg_229 hfor h32 (vsub hc (by decide))).trans rfl).symm.trans hK
    · obtain ⟨r36, h35, hx⟩ := vb_bind hx
      have hx := Option.some.inj hx
      subst hx
      exact ((fg_229 hfor h35 (vsub hc (by decide))).trans rfl).symm.trans hK
  refine vb_ite hx (fun _ hx => ?_) (fun _ hx => ?_)
  · obtain ⟨r40, h39, hx⟩ := vb_bind hx
    have hx := Option.some.inj hx
    subst hx
    exact ((fg_229 hfor h39 (vsub hc (by decide))).trans rfl).symm.trans hK
  · obtain ⟨r43, h42, hx⟩ := vb_bind hx
    have hx := Option.some.inj hx
    subst hx
    exact ((fg_229 hfor h42 (vsub hc (by decide))).trans rfl).symm.trans hK
theorem fg_227_22 {M : eM} {c j : Nat} (hfor : c = 45) {v : Int} {x1 : Int} {x2 : Int} {x4 : Int} {x6 : Int} {x7 : Int} {x : Int × eM} (hc : j ∉ ([69, 70] : List Nat)) (hx : fn_227_22 x1 x2 x4 x6 x7 M = some x) (hK : (fun (x : Int × eM) => ((x).2) c j = v) x) : M c j = v := by
  refine vb_ite hx (fun _ hx => ?_) (fun _ hx => ?_)
  · have hz := fg_227_28 hfor hc hx hK
    exact (Eq.refl _).symm.trans hz
  · obtain ⟨r46, h45, hx⟩ := vb_bind hx
    have hx := Option.some.inj hx
    subst hx
    exact ((fg_185 hfor h45 (vsub hc (by decide))).trans rfl).symm.trans hK
theorem fg_227 {M : eM} {c j : Nat} (hfor : c = 45) {a : Int} {b : Int} {e : Int} {x : Int × eM} (hx : fn_227 a b e M = some x) (hc : j ∉ ([69, 70] : List Nat)) : ((x).2) c j = M c j := by
  obtain ⟨v, hK⟩ : ∃ v, ((x).2) c j = v := ⟨_, rfl⟩
  rw [hK]
  refine Eq.symm ?_
  obtain ⟨r2, h1, hx⟩ := vb_bind hx
  refine vb_ite hx (fun _ hx => ?_) (fun _ hx => ?_)
  · obtain ⟨r6, h5, hx⟩ := vb_bind hx
    have hx := Option.some.inj hx
    subst hx
    exact ((fg_185 hfor h5 (vsub hc (by decide))).trans rfl).symm.trans hK
  · obtain ⟨r9, h8, hx⟩ := vb_bind hx
    refine vb_ite hx (fun _ hx => ?_) (fun _ hx => ?_)
    · refine vb_ite hx (fun _ hx => ?_) (fun _ hx => ?_)
      · have hz := fg_227_22 hfor hc hx hK
        exact (Eq.refl _).symm.trans hz
      · refine vb_ite hx (fun _ hx => ?_) (fun _ hx => ?_)
        · have hz := fg_227_28 hfor hc hx hK
          exact (Eq.refl _).symm.trans hz
        · have hz := fg_227_22 hfor hc hx hK
          exact (Eq.refl _).symm.trans hz
    · obtain ⟨r50, h49, hx⟩ := vb_bind hx
      have hx := Option.some.inj hx
      subst hx
      exact ((fg_185 hfor h49 (vsub hc (by decide))).trans rfl).symm.trans hK
theorem fg_231 {M : eM} {c j : Nat} (hfor : c = 45) {a : Int} {x : Int × eM} (hx : fn_231 a M = some x) (hc : j ∉ ([69, 70] : List Nat)) : ((x).2) c j = M c j := by
  obtain ⟨v, hK⟩ : ∃ v, ((x).2) c j = v := ⟨_, rfl⟩
  rw [hK]
  refine Eq.symm ?_
  refine vb_ite hx (fun _ hx => ?_) (fun _ hx => ?_)
  · obtain ⟨r3, h2, hx⟩ := vb_bind hx
    have hx := Option.some.inj hx
    subst hx
    exact ((fg_229 hfor h2 (vsub hc (by decide))).trans rfl).symm.trans hK
  · obtain ⟨r6, h5, hx⟩ := vb_bind hx
    have hx := Option.some.inj hx
    subst hx
    exact ((fg_185 hfor h5 (vsub hc (by decide))).trans rfl).symm.trans hK
theorem fg_232 {M : eM} {c j : Nat} (hfor : c = 45) {a : Int} {b : Int} {x : Int × eM} (hx : fn_232 a b M = some x) (hc : j ∉ ([69, 70] : List Nat)) : ((x).2) c j = M c j := by
  obtain ⟨v, hK⟩ : ∃ v, ((x).2) c j = v := ⟨_, rfl⟩
  rw [hK]
  refine Eq.symm ?_
  obtain ⟨_, hx⟩ := vb_if hx
  obtain ⟨_, hx⟩ := vb_if hx
  obtain ⟨r4, h3, hx⟩ := vb_bind hx
  refine vb_ite hx (fun _ hx => ?_) (fun _ hx => ?_)
  · obtain ⟨r8, h7, hx⟩ := vb_bind hx
    have hx := Option.some.inj hx
    subst hx
    exact ((fg_185 hfor h7 (vsub hc (by decide))).trans rfl).symm.trans hK
  · obtain ⟨r11, h10, hx⟩ := vb_bind hx
    refine vb_ite hx (fun _ hx => ?_) (fun _ hx => ?_)
    · refine vb_ite hx (fun _ hx => ?_) (fun _ hx => ?_)
      · obtain ⟨r16, h15, hx⟩ := vb_bind hx
        have hx := Option.some.inj hx
        subst hx
        exact ((fg_185 hfor h15 (vsub hc (by decide))).trans rfl).symm.trans hK
      · obtain ⟨r19, h18, hx⟩ := vb_bind hx
        obtain ⟨_, hx⟩ := vb_if hx
        refine vb_ite hx (fun _ hx => ?_) (fun _ hx => ?_)
        · refine vb_ite hx (fun _ hx => ?_) (fun _ hx => ?_)
          · obtain ⟨_, hx⟩ := vb_if hx
            obtain ⟨m27, h25, hx⟩ := vb_bind hx
            obtain ⟨r29, h28, hx⟩ := vb_bind hx
            have hx := Option.some.inj hx
            subst hx
            exact ((fg_229 hfor h28 (vsub hc (by decide))).trans ((fg_205 hfor h25 (vsub hc (by decide))).trans rfl)).symm.trans hK
          · obtain ⟨r32, h31, hx⟩ := vb_bind hx
            obtain ⟨r35, h34, hx⟩ := vb_bind hx
            have hx := Option.some.inj hx
            subst hx
            exact ((fg_229 hfor h34 (vsub hc (by decide))).trans rfl).symm.trans hK
        · obtain ⟨r38, h37, hx⟩ := vb_bind hx
          have hx := Option.some.inj hx
          subst hx
          exact ((fg_185 hfor h37 (vsub hc (by decide))).trans rfl).symm.trans hK
    · obtain ⟨r41, h40, hx⟩ := vb_bind hx
      have hx := Option.some.inj hx
      subst hx
      exact ((fg_185 hfor h40 (vsub hc (by decide))).trans rfl).symm.trans hK
theorem fg_230 {M : eM} {c j : Nat} (hfor : c = 45) {a : Int} {b : Int} {x : Int × eM} (hx : fn_230 a b M = some x) (hc : j ∉ ([28, 29, 38, 41, 43, 45, 48, 64, 66, 67, 69, 70] : List Nat)) : ((x).2) c j = M c j := by
  obtain ⟨v, hK⟩ : ∃ v, ((x).2) c j = v := ⟨_, rfl⟩
  rw [hK]
  refine Eq.symm ?_
  obtain ⟨_, hx⟩ := vb_if hx
  refine vb_ite hx (fun _ hx => ?_) (fun _ hx => ?_)
  · obtain ⟨_, hx⟩ := vb_if hx
    refine vb_ite hx (fun _ hx => ?_) (fun _ hx => ?_)
    · obtain ⟨r5, h4, hx⟩ := vb_bind hx
      have hx := Option.some.inj hx
      subst hx
      exact ((fg_229 hfor h4 (vsub hc (by decide))).trans rfl).symm.trans hK
    · obtain ⟨r8, h7, hx⟩ := vb_bind hx
      have hx := Option.some.inj hx
      subst hx
      exact ((fg_229 hfor h7 (vsub hc (by decide))).trans rfl).symm.trans hK
  refine vb_ite hx (fun _ hx => ?_) (fun _ hx => ?_)
  · refine vb_ite hx (fun _ hx => ?_) (fun _ hx => ?_)
    · obtain ⟨r12, h11, hx⟩ := vb_bind hx
      have hx := Option.some.inj hx
      subst hx
      exact ((fg_229 hfor h11 (vsub hc (by decide))).trans rfl).symm.trans hK
    · obtain ⟨r15, h14, hx⟩ := vb_bind hx
      have hx := Option.some.inj hx
      subst hx
      exact ((fg_229 hfor h14 (vsub hc (by decide))).trans rfl).symm.trans hK
  refine vb_ite hx (fun _ hx => ?_) (fun _ hx => ?_)
  · refine vb_ite hx (fun _ hx => ?_) (fun _ hx => ?_)
    · obtain ⟨r19, h18, hx⟩ := vb_bind hx
      have hx := Option.some.inj hx
      subst hx
      exact ((fg_229 hfor h18 (vsub hc (by decide))).trans rfl).symm.trans hK
    · obtain ⟨r22, h21, hx⟩ := vb_bind hx
      have hx := Option.some.inj hx
      subst hx
      exact ((fg_229 hfor h21 (vsub hc (by decide))).trans rfl).symm.trans hK
  refine vb_ite hx (fun _ hx => ?_) (fun _ hx => ?_)
  · obtain ⟨r25, h24, hx⟩ := vb_bind hx
    refine vb_ite hx (fun _ hx => ?_) (fun _ hx => ?_)
    · obtain ⟨r29, h28, hx⟩ := vb_bind hx
      have hx := Option.some.inj hx
      subst hx
      exact ((fg_229 hfor h28 (vsub hc (by decide))).trans rfl).symm.trans hK
    · obtain ⟨r32, h31, hx⟩ := vb_bind hx
      have hx := Option.some.inj hx
      subst hx
      exact ((fg_229 hfor h31 (vsub hc (by decide))).trans rfl).symm.trans hK
  refine vb_ite hx (fun _ hx => ?_) (fun _ hx => ?_)
  · obtain ⟨r35, h34, hx⟩ := vb_bind hx
    refine vb_ite hx (fun _ hx => ?_) (fun _ hx => ?_)
    · obtain ⟨r39, h38, hx⟩ := vb_bind hx
      have hx := Option.some.inj hx
      subst hx
      exact ((fg_231 hfor h38 (vsub hc (by decide))).trans ((fg_195 hfor h34 (vsub hc (by decide))).trans rfl)).symm.trans hK
    · obtain ⟨_, hx⟩ := vb_if hx
      obtain ⟨m44, h42, hx⟩ := vb_bind hx
      obtain ⟨r46, h45, hx⟩ := vb_bind hx
      have hx := Option.some.inj hx
      subst hx
      exact ((fg_231 hfor h45 (vsub hc (by decide))).trans ((fg_205 hfor h42 (vsub hc (by decide))).trans ((fg_195 hfor h34 (vsub hc (by decide))).trans rfl))).symm.trans hK
  refine vb_ite hx (fun _ hx => ?_) (fun _ hx => ?_)
  · obtain ⟨r49, h48, hx⟩ := vb_bind hx
    refine vb_ite hx (fun _ hx => ?_) (fun _ hx => ?_)
    · obtain ⟨r53, h52, hx⟩ := vb_bind hx
      have hx := Option.some.inj hx
      subst hx
      exact ((fg_185 hfor h52 (vsub hc (by decide))).trans rfl).symm.trans hK
    · obtain ⟨r56, h55, hx⟩ := vb_bind hx
      obtain ⟨r59, h58, hx⟩ := vb_bind hx
      have hx := Option.some.inj hx
      subst hx
      exact ((fg_229 hfor h58 (vsub hc (by decide))).trans rfl).symm.trans hK
  refine vb_ite hx (fun _ hx => ?_) (fun _ hx => ?_)
  · obtain ⟨r62, h61, hx⟩ := vb_bind hx
    refine vb_ite hx (fun _ hx => ?_) (fun _ hx => ?_)
    · obtain ⟨r66, h65, hx⟩ := vb_bind hx
      have hx := Option.some.inj hx
      subst hx
      exact ((fg_185 hfor h65 (vsub hc (by decide))).trans rfl).symm.trans hK
    · obtain ⟨r69, h68, hx⟩ := vb_bind hx
      obtain ⟨r72, h71, hx⟩ := vb_bind hx
      have hx := Option.some.inj hx
      subst hx
      exact ((fg_229 hfor h71 (vsub hc (by decide))).trans rfl).symm.trans hK
  refine vb_ite hx (fun _ hx => ?_) (fun _ hx => ?_)
  · obtain ⟨r75, h74, hx⟩ := vb_bind hx
    refine vb_ite hx (fun _ hx => ?_) (fun _ hx => ?_)
    · obtain ⟨_, hx⟩ := vb_if hx
      obtain ⟨m81, h79, hx⟩ := vb_bind hx
      obtain ⟨r83, h82, hx⟩ := vb_bind hx
      have hx := Option.some.inj hx
      subst hx
      exact ((fg_229 hfor h82 (vsub hc (by decide))).trans ((fg_205 hfor h79 (vsub hc (by decide))).trans rfl)).symm.trans hK
    · obtain ⟨r86, h85, hx⟩ := vb_bind hx
      have hx := Option.some.inj hx
      subst hx
      exact ((fg_185 hfor h85 (vsub hc (by decide))).trans rfl).symm.trans hK
  refine vb_ite hx (fun _ hx => ?_) (fun _ hx => ?_)
  · obtain ⟨r89, h88, hx⟩ := vb_bind hx
    refine vb_ite hx (fun _ hx => ?_) (fun _ hx => ?_)
    · obtain ⟨_, hx⟩ := vb_if hx
      obtain ⟨m95, h93, hx⟩ := vb_bind hx
      obtain ⟨r97, h96, hx⟩ := vb_bind hx
      have hx := Option.some.inj hx
      subst hx
      exact ((fg_229 hfor h96 (vsub hc (by decide))).trans ((fg_205 hfor h93 (vsub hc (by decide))).trans rfl)).symm.trans hK
    · obtain ⟨r100, h99, hx⟩ := vb_bind hx
      have hx := Option.some.inj hx
      subst hx
      exact ((fg_185 hfor h99 (vsub hc (by decide))).trans rfl).symm.trans hK
  refine vb_ite hx (fun _ hx => ?_) (fun _ hx => ?_)
  · obtain ⟨r103, h102, hx⟩ := vb_bind hx
    refine vb_ite hx (fun _ hx => ?_) (fun _ hx => ?_)
    · refine vb_ite hx (fun _ hx => ?_) (fun _ hx => ?_)
      · obtain ⟨r108, h107, hx⟩ := vb_bind hx
        have hx := Option.some.inj hx
        subst hx
        exact ((fg_185 hfor h107 (vsub hc (by decide))).trans rfl).symm.trans hK
      · refine vb_ite hx (fun _ hx => ?_) (fun _ hx => ?_)
        · obtain ⟨_, hx⟩ := vb_if hx
          obtain ⟨r113, h112, hx⟩ := vb_bind hx
          obtain ⟨r116, h115, hx⟩ := vb_bind hx
          have hx := Option.some.inj hx
          subst hx
          exact ((fg_231 hfor h115 (vsub hc (by decide))).trans ((fg_195 hfor h112 (vsub hc (by decide))).trans rfl)).symm.trans hK
        · obtain ⟨r119, h118, hx⟩ := vb_bind hx
          have hx := Option.some.inj hx
          subst hx
          exact ((fg_185 hfor h118 (vsub hc (by decide))).trans rfl).symm.trans hK
    · obtain ⟨r122, h121, hx⟩ := vb_bind hx
      have hx := Option.some.inj hx
      subst hx
      exact ((fg_185 hfor h121 (vsub hc (by decide))).trans rfl).symm.trans hK
  refine vb_ite hx (fun _ hx => ?_) (fun _ hx => ?_)
  · obtain ⟨r125, h124, hx⟩ := vb_bind hx
    have hx := Option.some.inj hx
    subst hx
    exact ((fg_232 hfor h124 (vsub hc (by decide))).trans rfl).symm.trans hK
  refine vb_ite hx (fun _ hx => ?_) (fun _ hx => ?_)
  · obtain ⟨r128, h127, hx⟩ := vb_bind hx
    have hx := Option.some.inj hx
    subst hx
    exact ((fg_232 hfor h127 (vsub hc (by decide))).trans rfl).symm.trans hK
  refine vb_ite hx (fun _ hx => ?_) (fun _ hx => ?_)
  · obtain ⟨r131, h130, hx⟩ := vb_bind hx
    refine vb_ite hx (fun _ hx => ?_) (fun _ hx => ?_)
    · obtain ⟨r135, h134, hx⟩ := vb_bind hx
      have hx := Option.some.inj hx
      subst hx
      exact ((fg_185 hfor h134 (vsub hc (by decide))).trans rfl).symm.trans hK
    · obtain ⟨r138, h137, hx⟩ := vb_bind hx
      obtain ⟨_, hx⟩ := vb_if hx
      obtain ⟨r142, h141, hx⟩ := vb_bind hx
      have hx := Option.some.inj hx
      subst hx
      exact ((fg_229 hfor h141 (vsub hc (by decide))).trans rfl).symm.trans hK
  obtain ⟨r145, h144, hx⟩ := vb_bind hx
  have hx := Option.some.inj hx
  subst hx
  exact ((fg_232 hfor h144 (vsub hc (by decide))).trans rfl).symm.trans hK
theorem fg_234 {M : eM} {c j : Nat} (hfor : c = 45) {a : Int} {b : Int} {x : Int × eM} (hx : fn_234 a b M = some x) (hc : j ∉ ([45, 69, 70] : List Nat)) : ((x).2) c j = M c j := by
  obtain ⟨v, hK⟩ : ∃ v, ((x).2) c j = v := ⟨_, rfl⟩
  rw [hK]
  refine Eq.symm ?_
  obtain ⟨r2, h1, hx⟩ := vb_bind hx
  refine vb_ite hx (fun _ hx => ?_) (fun _ hx => ?_)
  · obtain ⟨r6, h5, hx⟩ := vb_bind hx
    have hx := Option.some.inj hx
    subst hx
    exact ((fg_185 hfor h5 (vsub hc (by decide))).trans rfl).symm.trans hK
  · obtain ⟨r9, h8, hx⟩ := vb_bind hx
    refine vb_ite hx (fun _ hx => ?_) (fun _ hx => ?_)
    · obtain ⟨r13, h12, hx⟩ := vb_bind hx
      have hx := Option.some.inj hx
      subst hx
      exact ((fg_185 hfor h12 (vsub hc (by decide))).trans rfl).symm.trans hK
    · obtain ⟨r16, h15, hx⟩ := vb_bind hx
      obtain ⟨_, hx⟩ := vb_if hx
      obtain ⟨r20, h19, hx⟩ := vb_bind hx
      obtain ⟨_, hx⟩ := vb_if hx
      refine vb_ite hx (fun _ hx => ?_) (fun _ hx => ?_)
      · refine vb_ite hx (fun _ hx => ?_) (fun _ hx => ?_)
        · obtain ⟨_, hx⟩ := vb_if hx
          obtain ⟨r28, h27, hx⟩ := vb_bind hx
          have hx := Option.some.inj hx
          subst hx
          exact ((fg_229 hfor h27 (vsub hc (by decide))).trans ((eg_u_nj (fun z => vne hc (a := 45) (by decide) z.2)).trans ((congrFun (eg_u_ne (vn45 hfor (a := 74) (by decide))) j).trans ((congrFun (eg_u_ne (vn45 hfor (a := 73) (by decide))) j).trans rfl)))).symm.trans hK
        · obtain ⟨r31, h30, hx⟩ := vb_bind hx
          have hx := Option.some.inj hx
          subst hx
          exact ((fg_185 hfor h30 (vsub hc (by decide))).trans rfl).symm.trans hK
      · obtain ⟨r34, h33, hx⟩ := vb_bind hx
        have hx := Option.some.inj hx
        subst hx
        exact ((fg_185 hfor h33 (vsub hc (by decide))).trans rfl).symm.trans hK
theorem fg_235_19 {M : eM} {c j : Nat} (hfor : c = 45) {v : Int} {x1 : Int} {x2 : Int} {x4 : Int} {s : Int × Int} {x : Int × eM} (hc : j ∉ ([28, 29, 38, 41, 43, 45, 48, 64, 66, 67, 69, 70] : List Nat)) (hx : lp (fun z => fn_235_19 x1 x2 x4 M z.1 z.2) s = some x) (hK : (fun (x : Int × eM) => ((x).2) c j = v) x) : M c j = v := by
  refine lp_sound (P := (fun (s : Int × Int) => M c j = v)) (K := (fun (x : Int × eM) => ((x).2) c j = v)) hx hK ?_
  intro s x hx hK
  obtain ⟨s1, s2⟩ := s
  refine vb_ite hx (fun _ hx => ?_) (fun _ hx => ?_)
  · obtain ⟨r61, h60, hx⟩ := vb_bind hx
    have hx := Option.some.inj hx
    subst hx
    exact ((fg_229 hfor h60 (vsub hc (by decide))).trans rfl).symm.trans hK
  · obtain ⟨r64, h63, hx⟩ := vb_bind hx
    have hx := Option.some.inj hx
    subst hx
    exact hK
theorem fg_235 {M : eM} {c j : Nat} (hfor : c = 45) {a : Int} {b : Int} {e : Int} {x : Int × eM} (hx : fn_235 a b e M = some x) (hc : j ∉ ([28, 29, 38, 41, 43, 45, 48, 64, 66, 67, 69, 70] : List Nat)) : ((x).2) c j = M c j := by
  obtain ⟨v, hK⟩ : ∃ v, ((x).2) c j = v := ⟨_, rfl⟩
  rw [hK]
  refine Eq.symm ?_
  obtain ⟨r2, h1, hx⟩ := vb_bind hx
  refine vb_ite hx (fun _ hx => ?_) (fun _ hx => ?_)
  · refine vb_ite hx (fun _ hx => ?_) (fun _ hx => ?_)
    · obtain ⟨_, hx⟩ := vb_if hx
      obtain ⟨r8, h7, hx⟩ := vb_bind hx
      refine vb_ite hx (fun _ hx => ?_) (fun _ hx => ?_)
      · refine vb_ite hx (fun _ hx => ?_) (fun _ hx => ?_)
        · obtain ⟨_, hx⟩ := vb_if hx
          obtain ⟨m15, h13, hx⟩ := vb_bind hx
          obtain ⟨r17, h16, hx⟩ := vb_bind hx
          have hx := Option.some.inj hx
          subst hx
          exact ((fg_229 hfor h16 (vsub hc (by decide))).trans ((fg_205 hfor h13 (vsub hc (by decide))).trans rfl)).symm.trans hK
        · obtain ⟨r20, h19, hx⟩ := vb_bind hx
          refine vb_ite hx (fun _ hx => ?_) (fun _ hx => ?_)
          · obtain ⟨m26, h24, hx⟩ := vb_bind hx
            obtain ⟨r28, h27, hx⟩ := vb_bind hx
            obtain ⟨m32, h30, hx⟩ := vb_bind hx
            obtain ⟨m35, h33, hx⟩ := vb_bind hx
            obtain ⟨_, hx⟩ := vb_if hx
            obtain ⟨m39, h37, hx⟩ := vb_bind hx
            obtain ⟨r41, h40, hx⟩ := vb_bind hx
            have hx := Option.some.inj hx
            subst hx
            exact ((fg_229 hfor h40 (vsub hc (by decide))).trans ((fg_205 hfor h37 (vsub hc (by decide))).trans ((fg_205 hfor h33 (vsub hc (by decide))).trans ((fg_205 hfor h30 (vsub hc (by decide))).trans ((fg_205 hfor h24 (vsub hc (by decide))).trans ((fg_195 hfor h19 (vsub hc (by decide))).trans rfl)))))).symm.trans hK
          · obtain ⟨r44, h43, hx⟩ := vb_bind hx
            have hx := Option.some.inj hx
            subst hx
            exact ((fg_185 hfor h43 (vsub hc (by decide))).trans ((fg_195 hfor h19 (vsub hc (by decide))).trans rfl)).symm.trans hK
      · refine vb_ite hx (fun _ hx => ?_) (fun _ hx => ?_)
        · obtain ⟨r48, h47, hx⟩ := vb_bind hx
          obtain ⟨r51, h50, hx⟩ := vb_bind hx
          have hx := Option.some.inj hx
          subst hx
          exact ((fg_229 hfor h50 (vsub hc (by decide))).trans rfl).symm.trans hK
        · obtain ⟨r54, h53, hx⟩ := vb_bind hx
          have hx := Option.some.inj hx
          subst hx
          exact ((fg_229 hfor h53 (vsub hc (by decide))).trans rfl).symm.trans hK
    · obtain ⟨r57, h56, hx⟩ := vb_bind hx
      have hz := fg_235_19 hfor hc hx hK
      exact (Eq.refl _).symm.trans hz
  · obtain ⟨r67, h66, hx⟩ := vb_bind hx
    have hx := Option.some.inj hx
    subst hx
    exact ((fg_185 hfor h66 (vsub hc (by decide))).trans rfl).symm.trans hK
theorem fg_233_9 {M : eM} {c j : Nat} (hfor : c = 45) {v : Int} {x1 : Int} {x2 : Int} {y0 : Int} {x : Int × eM} (hc : j ∉ ([28, 29, 38, 41, 43, 45, 48, 64, 66, 67, 69, 70] : List Nat)) (hx : fn_233_9 x1 x2 y0 M = some x) (hK : (fun (x : Int × eM) => ((x).2) c j = v) x) : M c j = v := by
  refine vb_ite hx (fun _ hx => ?_) (fun _ hx => ?_)
  · obtain ⟨r4, h3, hx⟩ := vb_bind hx
    obtain ⟨r7, h6, hx⟩ := vb_bind hx
    have hx := Option.some.inj hx
    subst hx
    exact ((fg_231 hfor h6 (vsub hc (by decide))).trans ((fg_195 hfor h3 (vsub hc (by decide))).trans rfl)).symm.trans hK
  refine vb_ite hx (fun _ hx => ?_) (fun _ hx => ?_)
  · obtain ⟨r10, h9, hx⟩ := vb_bind hx
    refine vb_ite hx (fun _ hx => ?_) (fun _ hx => ?_)
    · obtain ⟨r14, h13, hx⟩ := vb_bind hx
      have hx := Option.some.inj hx
      subst hx
      exact ((fg_185 hfor h13 (vsub hc (by decide))).trans rfl).symm.trans hK
    · obtain ⟨r17, h16, hx⟩ := vb_bind hx
      obtain ⟨r20, h19, hx⟩ := vb_bind hx
      have hx := Option.some.inj hx
      subst hx
      exact ((fg_229 hfor h19 (vsub hc (by decide))).trans rfl).symm.trans hK
  refine vb_ite hx (fun _ hx => ?_) (fun _ hx => ?_)
  · obtain ⟨r23, h22, hx⟩ := vb_bind hx
    refine vb_ite hx (fun _ hx => ?_) (fun _ hx => ?_)
    · obtain ⟨r27, h26, hx⟩ := vb_bind hx
      have hx := Option.some.inj hx
      subst hx
      exact ((fg_231 hfor h26 (vsub hc (by decide))).trans ((fg_195 hfor h22 (vsub hc (by decide))).trans rfl)).symm.trans hK
    · obtain ⟨_, hx⟩ := vb_if hx
      obtain ⟨m32, h30, hx⟩ := vb_bind hx
      obtain ⟨r34, h33, hx⟩ := vb_bind hx
      have hx := Option.some.inj hx
      subst hx
      exact ((fg_231 hfor h33 (vsub hc (by decide))).trans ((fg_205 hfor h30 (vsub hc (by decide))).trans ((fg_195 hfor h22 (vsub hc (by decide))).trans rfl))).symm.trans hK
  refine vb_ite hx (fun _ hx => ?_) (fun _ hx => ?_)
  · obtain ⟨r37, h36, hx⟩ := vb_bind hx
    refine vb_ite hx (fun _ hx => ?_) (fun _ hx => ?_)
    · obtain ⟨r41, h40, hx⟩ := vb_bind hx
      have hx := Option.some.inj hx
      subst hx
      exact ((fg_185 hfor h40 (vsub hc (by decide))).trans rfl).symm.trans hK
    · obtain ⟨r44, h43, hx⟩ := vb_bind hx
      obtain ⟨r47, h46, hx⟩ := vb_bind hx
      have hx := Option.some.inj hx
      subst hx
      exact ((fg_229 hfor h46 (vsub hc (by decide))).trans rfl).symm.trans hK
  refine vb_ite hx (fun _ hx => ?_) (fun _ hx => ?_)
  · obtain ⟨r50, h49, hx⟩ := vb_bind hx
    refine vb_ite hx (fun _ hx => ?_) (fun _ hx => ?_)
    · obtain ⟨r54, h53, hx⟩ := vb_bind hx
      have hx := Option.some.inj hx
      subst hx
      exact ((fg_185 hfor h53 (vsub hc (by decide))).trans rfl).symm.trans hK
    · obtain ⟨r57, h56, hx⟩ := vb_bind hx
      obtain ⟨r60, h59, hx⟩ := vb_bind hx
      have hx := Option.some.inj hx
      subst hx
      exact ((fg_229 hfor h59 (vsub hc (by decide))).trans rfl).symm.trans hK
  refine vb_ite hx (fun _ hx => ?_) (fun _ hx => ?_)
  · obtain ⟨r63, h62, hx⟩ := vb_bind hx
    obtain ⟨r66, h65, hx⟩ := vb_bind hx
    have hx := Option.some.inj hx
    subst hx
    exact ((fg_231 hfor h65 (vsub hc (by decide))).trans ((fg_195 hfor h62 (vsub hc (by decide))).trans rfl)).symm.trans hK
  refine vb_ite hx (fun _ hx => ?_) (fun _ hx => ?_)
  · obtain ⟨r69, h68, hx⟩ := vb_bind hx
    have hx := Option.some.inj hx
    subst hx
    exact ((fg_235 hfor h68 (vsub hc (by decide))).trans rfl).symm.trans hK
  refine vb_ite hx (fun _ hx => ?_) (fun _ hx => ?_)
  · obtain ⟨r72, h71, hx⟩ := vb_bind hx
    have hx := Option.some.inj hx
    subst hx
    exact ((fg_235 hfor h71 (vsub hc (by decide))).trans rfl).symm.trans hK
  refine vb_ite hx (fun _ hx => ?_) (fun _ hx => ?_)
  · obtain ⟨r75, h74, hx⟩ := vb_bind hx
    have hx := Option.some.inj hx
    subst hx
    exact ((fg_235 hfor h74 (vsub hc (by decide))).trans rfl).symm.trans hK
  refine vb_ite hx (fun _ hx => ?_) (fun _ hx => ?_)
  · obtain ⟨_, hx⟩ := vb_if hx
    obtain ⟨r79, h78, hx⟩ := vb_bind hx
    have hx := Option.some.inj hx
    subst hx
    exact ((fg_234 hfor h78 (vsub hc (by decide))).trans rfl).symm.trans hK
  obtain ⟨r82, h81, hx⟩ := vb_bind hx
  have hx := Option.some.inj hx
  subst hx
  exact ((fg_235 hfor h81 (vsub hc (by decide))).trans rfl).symm.trans hK
theorem fg_233 {M : eM} {c j : Nat} (hfor : c = 45) {a : Int} {b : Int} {x : Int × eM} (hx : fn_233 a b M = some x) (hc : j ∉ ([28, 29, 38, 41, 43, 45, 48, 64, 66, 67, 69, 70] : List Nat)) : ((x).2) c j = M c j := by
  obtain ⟨v, hK⟩ : ∃ v, ((x).2) c j = v := ⟨_, rfl⟩
  rw [hK]
  refine Eq.symm ?_
  refine vb_ite hx (fun _ hx => ?_) (fun _ hx => ?_)
  · obtain ⟨_, hx⟩ := vb_if hx
    have hz := fg_233_9 hfor hc hx hK
    exact (Eq.refl _).symm.trans hz
  · have hz := fg_233_9 hfor hc hx hK
    exact (Eq.refl _).symm.trans hz
theorem fg_240 {M : eM} {c j : Nat} (hfor : c = 45) {a : Int} {x : eM} (hx : fn_240 a M = some x) (hc : j ∉ ([72] : List Nat)) : x c j = M c j := by
  obtain ⟨v, hK⟩ : ∃ v, x c j = v := ⟨_, rfl⟩
  rw [hK]
  refine Eq.symm ?_
  refine vb_ite hx (fun _ hx => ?_) (fun _ hx => ?_)
  · obtain ⟨_, hx⟩ := vb_if hx
    have hx := Option.some.inj hx
    subst hx
    exact ((eg_u_nj (fun z => vne hc (a := 72) (by decide) z.2)).trans ((congrFun (eg_u_ne (vn45 hfor (a := 86) (by decide))) j).trans rfl)).symm.trans hK
  · have hx := Option.some.inj hx
    subst hx
    exact (Eq.refl _).symm.trans hK
theorem fg_241_2 {c j : Nat} (hfor : c = 45) {v : Int} {s : Int × eM} {x : eM} (hc : j ∉ ([72] : List Nat)) (hx : lp (fun z => fn_241_2 z.1 z.2) s = some x) (hK : (fun (x : eM) => x c j = v) x) : s.2 c j = v := by
  refine lp_sound (P := (fun (s : Int × eM) => s.2 c j = v)) (K := (fun (x : eM) => x c j = v)) hx hK ?_
  intro s x hx hK
  obtain ⟨s1, s2⟩ := s
  refine vb_ite hx (fun _ hx => ?_) (fun _ hx => ?_)
  · have hx := Option.some.inj hx
    subst hx
    exact (Eq.refl _).symm.trans hK
  · obtain ⟨m4, h2, hx⟩ := vb_bind hx
    have hx := Option.some.inj hx
    subst hx
    exact ((fg_240 hfor h2 (vsub hc (by decide))).trans rfl).symm.trans hK
theorem fg_241 {M : eM} {c j : Nat} (hfor : c = 45) {x : eM} (hx : fn_241 M = some x) (hc : j ∉ ([72] : List Nat)) : x c j = M c j := by
  obtain ⟨v, hK⟩ : ∃ v, x c j = v := ⟨_, rfl⟩
  rw [hK]
  refine Eq.symm ?_
  have hz := fg_241_2 hfor hc hx hK
  exact (Eq.refl _).symm.trans hz
theorem fg_243_27 {c j : Nat} (hfor : c = 45) {v : Int} {x1 : Int} {x2 : Int} {s : Int × eM} {x : eM} (hc : j ∉ ([72] : List Nat)) (hx : lp (fun z => fn_243_27 x1 x2 z.1 z.2) s = some x) (hK : (fun (x : eM) => x c j = v) x) : s.2 c j = v := by
  refine lp_sound (P := (fun (s : Int × eM) => s.2 c j = v)) (K := (fun (x : eM) => x c j = v)) hx hK ?_
  intro s x hx hK
  obtain ⟨s1, s2⟩ := s
  refine vb_ite hx (fun _ hx => ?_) (fun _ hx => ?_)
  · have hx := Option.some.inj hx
    subst hx
    exact (Eq.refl _).symm.trans hK
  · obtain ⟨_, hx⟩ := vb_if hx
    obtain ⟨m8, h6, hx⟩ := vb_bind hx
    have hx := Option.some.inj hx
    subst hx
    exact ((fg_240 hfor h6 (vsub hc (by decide))).trans rfl).symm.trans hK
theorem fg_243_16 {M : eM} {c j : Nat} (hfor : c = 45) {v : Int} {x1 : Int} {x2 : Int} {s : Int} {x : eM} (hc : j ∉ ([72] : List Nat)) (hx : lp (fn_243_16 x1 x2 M) s = some x) (hK : (fun (x : eM) => x c j = v) x) : M c j = v := by
  refine lp_sound (P := (fun (s : Int) => M c j = v)) (K := (fun (x : eM) => x c j = v)) hx hK ?_
  intro s x hx hK
  obtain ⟨_, hx⟩ := vb_if hx
  refine vb_ite hx (fun _ hx => ?_) (fun _ hx => ?_)
  · obtain ⟨x, hy, e9⟩ := vb_map hx
    clear hx
    subst e9
    have hx := hy
    clear hy
    have hz := fg_243_27 hfor hc hx hK
    exact (Eq.refl _).symm.trans hz
  · have hx := Option.some.inj hx
    subst hx
    exact hK
theorem fg_243 {M : eM} {c j : Nat} (hfor : c = 45) {a : Int} {x : eM} (hx : fn_243 a M = some x) (hc : j ∉ ([72] : List Nat)) : x c j = M c j := by
  obtain ⟨v, hK⟩ : ∃ v, x c j = v := ⟨_, rfl⟩
  rw [hK]
  refine Eq.symm ?_
  refine vb_ite hx (fun _ hx => ?_) (fun _ hx => ?_)
  · have hz := fg_243_16 hfor hc hx hK
    exact (Eq.refl _).symm.trans hz
  · obtain ⟨m11, h9, hx⟩ := vb_bind hx
    have hz := fg_243_16 hfor hc hx hK
    exact ((fg_240 hfor h9 (vsub hc (by decide))).trans rfl).symm.trans hz
theorem fg_244_5 {c j : Nat} (hfor : c = 45) {v : Int} {x1 : Int} {s : Int × eM} {x : eM} (hc : j ∉ ([72] : List Nat)) (hx : lp (fun z => fn_244_5 x1 z.1 z.2) s = some x) (hK : (fun (x : eM) => x c j = v) x) : s.2 c j = v := by
  refine lp_sound (P := (fun (s : Int × eM) => s.2 c j = v)) (K := (fun (x : eM) => x c j = v)) hx hK ?_
  intro s x hx hK
  obtain ⟨s1, s2⟩ := s
  obtain ⟨_, hx⟩ := vb_if hx
  refine vb_ite hx (fun _ hx => ?_) (fun _ hx => ?_)
  · have hx := Option.some.inj hx
    subst hx
    exact (Eq.refl _).symm.trans hK
  · obtain ⟨_, hx⟩ := vb_if hx
    obtain ⟨m7, h5, hx⟩ := vb_bind hx
    have hx := Option.some.inj hx
    subst hx
    exact ((fg_240 hfor h5 (vsub hc (by decide))).trans rfl).symm.trans hK
theorem fg_244 {M : eM} {c j : Nat} (hfor : c = 45) {a : Int} {x : eM} (hx : fn_244 a M = some x) (hc : j ∉ ([72] : List Nat)) : x c j = M c j := by
  obtain ⟨v, hK⟩ : ∃ v, x c j = v := ⟨_, rfl⟩
  rw [hK]
  refine Eq.symm ?_
  obtain ⟨_, hx⟩ := vb_if hx
  have hz := fg_244_5 hfor hc hx hK
  exact (Eq.refl _).symm.trans hz
theorem fg_245_8 {c j : Nat} (hfor : c = 45) {v : Int} {x1 : Int} {s : Int × eM} {x : eM} (hc : j ∉ ([72] : List Nat)) (hx : lp (fun z => fn_245_8 x1 z.1 z.2) s = some x) (hK : (fun (x : eM) => x c j = v) x) : s.2 c j = v := by
  refine lp_sound (P := (fun (s : Int × eM) => s.2 c j = v)) (K := (fun (x : eM) => x c j = v)) hx hK ?_
  intro s x hx hK
  obtain ⟨s1, s2⟩ := s
  refine vb_ite hx (fun _ hx => ?_) (fun _ hx => ?_)
  · obtain ⟨m10, h8, hx⟩ := vb_bind hx
    have hx := Option.some.inj hx
    subst hx
    exact ((fg_240 hfor h8 (vsub hc (by decide))).trans rfl).symm.trans hK
  · refine vb_ite hx (fun _ hx => ?_) (fun _ hx => ?_)
    · have hx := Option.some.inj hx
      subst hx
      exact (Eq.refl _).symm.trans hK
    · obtain ⟨m14, h12, hx⟩ := vb_bind hx
      have hx := Option.some.inj hx
      subst hx
      exact ((fg_240 hfor h12 (vsub hc (by decide))).trans rfl).symm.trans hK
theorem fg_245 {M : eM} {c j : Nat} (hfor : c = 45) {a : Int} {x : eM} (hx : fn_245 a M = some x) (hc : j ∉ ([72] : List Nat)) : x c j = M c j := by
  obtain ⟨v, hK⟩ : ∃ v, x c j = v := ⟨_, rfl⟩
  rw [hK]
  refine Eq.symm ?_
  obtain ⟨m3, h1, hx⟩ := vb_bind hx
  obtain ⟨m6, h4, hx⟩ := vb_bind hx
  have hz := fg_245_8 hfor hc hx hK
  exact ((fg_240 hfor h4 (vsub hc (by decide))).trans ((fg_240 hfor h1 (vsub hc (by decide))).trans rfl)).symm.trans hz
theorem fg_242 {M : eM} {c j : Nat} (hfor : c = 45) {a : Int} {x : eM} (hx : fn_242 a M = some x) (hc : j ∉ ([72] : List Nat)) : x c j = M c j := by
  obtain ⟨v, hK⟩ : ∃ v, x c j = v := ⟨_, rfl⟩
  rw [hK]
  refine Eq.symm ?_
  refine vb_ite hx (fun _ hx => ?_) (fun _ hx => ?_)
  · obtain ⟨m3, h1, hx⟩ := vb_bind hx
    have hx := Option.some.inj hx
    subst hx
    exact ((fg_243 hfor h1 (vsub hc (by decide))).trans rfl).symm.trans hK
  refine vb_ite hx (fun _ hx => ?_) (fun _ hx => ?_)
  · obtain ⟨m6, h4, hx⟩ := vb_bind hx
    refine vb_ite hx (fun _ hx => ?_) (fun _ hx => ?_)
    · obtain ⟨m10, h8, hx⟩ := vb_bind hx
      have hx := Option.some.inj hx
      subst hx
      exact ((fg_240 hfor h8 (vsub hc (by decide))).trans ((fg_240 hfor h4 (vsub hc (by decide))).trans rfl)).symm.trans hK
    · obtain ⟨m13, h11, hx⟩ := vb_bind hx
      have hx := Option.some.inj hx
      subst hx
      exact ((fg_240 hfor h11 (vsub hc (by decide))).trans ((fg_240 hfor h4 (vsub hc (by decide))).trans rfl)).symm.trans hK
  refine vb_ite hx (fun _ hx => ?_) (fun _ hx => ?_)
  · obtain ⟨m16, h14, hx⟩ := vb_bind hx
    refine vb_ite hx (fun _ hx => ?_) (fun _ hx => ?_)
    · obtain ⟨m20, h18, hx⟩ := vb_bind hx
      have hx := Option.some.inj hx
      subst hx
      exact ((fg_240 hfor h18 (vsub hc (by decide))).trans ((fg_240 hfor h14 (vsub hc (by decide))).trans rfl)).symm.trans hK
    · obtain ⟨m23, h21, hx⟩ := vb_bind hx
      have hx := Option.some.inj hx
      subst hx
      exact ((fg_240 hfor h21 (vsub hc (by decide))).trans ((fg_240 hfor h14 (vsub hc (by decide))).trans rfl)).symm.trans hK
  refine vb_ite hx (fun _ hx => ?_) (fun _ hx => ?_)
  · obtain ⟨m26, h24, hx⟩ := vb_bind hx
    obtain ⟨m29, h27, hx⟩ := vb_bind hx
    have hx := Option.some.inj hx
    subst hx
    exact ((fg_240 hfor h27 (vsub hc (by decide))).trans ((fg_240 hfor h24 (vsub hc (by decide))).trans rfl)).symm.trans hK
  refine vb_ite hx (fun _ hx => ?_) (fun _ hx => ?_)
  · obtain ⟨m32, h30, hx⟩ := vb_bind hx
    have hx := Option.some.inj hx
    subst hx
    exact ((fg_244 hfor h30 (vsub hc (by decide))).trans rfl).symm.trans hK
  refine vb_ite hx (fun _ hx => ?_) (fun _ hx => ?_)
  · obtain ⟨m35, h33, hx⟩ := vb_bind hx
    have hx := Option.some.inj hx
    subst hx
    exact ((fg_245 hfor h33 (vsub hc (by decide))).trans rfl).symm.trans hK
  obtain ⟨r37, h36, hx⟩ := vb_bind hx
  obtain ⟨_, hx⟩ := vb_if hx
  refine vb_ite hx (fun _ hx => ?_) (fun _ hx => ?_)
  · refine vb_ite hx (fun _ hx => ?_) (fun _ hx => ?_)
    · refine vb_ite hx (fun _ hx => ?_) (fun _ hx => ?_)
      · refine vb_ite hx (fun _ hx => ?_) (fun _ hx => ?_)
        · obtain ⟨m46, h44, hx⟩ := vb_bind hx
          have hx := Option.some.inj hx
          subst hx
          exact ((fg_245 hfor h44 (vsub hc (by decide))).trans rfl).symm.trans hK
        · obtain ⟨m49, h47, hx⟩ := vb_bind hx
          have hx := Option.some.inj hx
          subst hx
          exact ((fg_245 hfor h47 (vsub hc (by decide))).trans rfl).symm.trans hK
      · obtain ⟨m52, h50, hx⟩ := vb_bind hx
        have hx := Option.some.inj hx
        subst hx
        exact ((fg_245 hfor h50 (vsub hc (by decide))).trans rfl).symm.trans hK
    · obtain ⟨m55, h53, hx⟩ := vb_bind hx
      have hx := Option.some.inj hx
      subst hx
      exact ((fg_245 hfor h53 (vsub hc (by decide))).trans rfl).symm.trans hK
  · obtain ⟨m58, h56, hx⟩ := vb_bind hx
    have hx := Option.some.inj hx
    subst hx
    exact ((fg_245 hfor h56 (vsub hc (by decide))).trans rfl).symm.trans hK
theorem fg_239_26 {M : eM} {c j : Nat} (hfor : c = 45) {v : Int} {x1 : Int} {x : Int × eM} (hc : j ∉ ([72, 73, 74] : List Nat)) (hx : fn_239_26 x1 M = some x) (hK : (fun (x : Int × eM) => ((x).2) c j = v) x) : M c j = v := by
  refine vb_ite hx (fun _ hx => ?_) (fun _ hx => ?_)
  · obtain ⟨r7, h6, hx⟩ := vb_bind hx
    refine vb_ite hx (fun _ hx => ?_) (fun _ hx => ?_)
    · obtain ⟨m12, h10, hx⟩ := vb_bind hx
      have hx := Option.some.inj hx
      subst hx
      exact ((fg_242 hfor h10 (vsub hc (by decide))).trans ((eg_u_nj (fun z => vne hc (a := 73) (by decide) z.2)).trans rfl)).symm.trans hK
    · obtain ⟨m15, h13, hx⟩ := vb_bind hx
      have hx := Option.some.inj hx
      subst hx
      exact ((fg_241 hfor h13 (vsub hc (by decide))).trans ((eg_u_nj (fun z => vne hc (a := 73) (by decide) z.2)).trans rfl)).symm.trans hK
  · obtain ⟨m18, h16, hx⟩ := vb_bind hx
    have hx := Option.some.inj hx
    subst hx
    exact ((fg_241 hfor h16 (vsub hc (by decide))).trans rfl).symm.trans hK
theorem fg_239 {M : eM} {c j : Nat} (hfor : c = 45) {a : Int} {x : Int × eM} (hx : fn_239 a M = some x) (hc : j ∉ ([72, 73, 74] : List Nat)) : ((x).2) c j = M c j := by
  obtain ⟨v, hK⟩ : ∃ v, ((x).2) c j = v := ⟨_, rfl⟩
  rw [hK]
  refine Eq.symm ?_
  obtain ⟨r2, h1, hx⟩ := vb_bind hx
  refine vb_ite hx (fun _ hx => ?_) (fun _ hx => ?_)
  · have hz := fg_239_26 hfor hc hx hK
    exact (Eq.refl _).symm.trans hz
  · refine vb_ite hx (fun _ hx => ?_) (fun _ hx => ?_)
    · have hz := fg_239_26 hfor hc hx hK
      exact (Eq.refl _).symm.trans hz
    · obtain ⟨m22, h20, hx⟩ := vb_bind hx
      obtain ⟨_, hx⟩ := vb_if hx
      have hx := Option.some.inj hx
      subst hx
      exact ((eg_u_nj (fun z => vne hc (a := 74) (by decide) z.2)).trans ((congrFun (eg_u_ne (vn45 hfor (a := 87) (by decide))) j).trans ((fg_240 hfor h20 (vsub hc (by decide))).trans rfl))).symm.trans hK
theorem fg_238_111 {c j : Nat} (hfor : c = 45) {v : Int} {x1 : Int} {x3 : Int} {x4 : Int} {s : Int × eM} {x : eM} (hc : j ∉ ([72, 73, 74] : List Nat)) (hx : lp (fun z => fn_238_111 x1 x3 x4 z.1 z.2) s = some x) (hK : (fun (x : eM) => x c j = v) x) : s.2 c j = v := by
  refine lp_sound (P := (fun (s : Int × eM) => s.2 c j = v)) (K := (fun (x : eM) => x c j = v)) hx hK ?_
  intro s x hx hK
  obtain ⟨s1, s2⟩ := s
  refine vb_ite hx (fun _ hx => ?_) (fun _ hx => ?_)
  · obtain ⟨m12, h10, hx⟩ := vb_bind hx
    have hx := Option.some.inj hx
    subst hx
    exact ((fg_240 hfor h10 (vsub hc (by decide))).trans rfl).symm.trans hK
  · obtain ⟨m15, h13, hx⟩ := vb_bind hx
    have hx := Option.some.inj hx
    subst hx
    exact ((fg_240 hfor h13 (vsub hc (by decide))).trans rfl).symm.trans hK
theorem fg_238_22 {c j : Nat} (hfor : c = 45) {v : Int} {x1 : Int} {s : Int × Int × eM} {x : eM} (hc : j ∉ ([72, 73, 74] : List Nat)) (hx : lp (fun z => fn_238_22 x1 z.1 z.2.1 z.2.2) s = some x) (hK : (fun (x : eM) => x c j = v) x) : s.2.2 c j = v := by
  refine lp_sound (P := (fun (s : Int × Int × eM) => s.2.2 c j = v)) (K := (fun (x : eM) => x c j = v)) hx hK ?_
  intro s x hx hK
  obtain ⟨s1, s2, s3⟩ := s
  refine vb_ite hx (fun _ hx => ?_) (fun _ hx => ?_)
  · obtain ⟨x, hy, e9⟩ := vb_map hx
    clear hx
    subst e9
    have hx := hy
    clear hy
    have hz := fg_238_111 hfor hc hx hK
    exact (Eq.refl _).symm.trans hz
  · refine vb_ite hx (fun _ hx => ?_) (fun _ hx => ?_)
    · obtain ⟨x, hy, e9⟩ := vb_map hx
      clear hx
      subst e9
      have hx := hy
      clear hy
      have hz := fg_238_111 hfor hc hx hK
      exact (Eq.refl _).symm.trans hz
    · obtain ⟨_, hx⟩ := vb_if hx
      refine vb_ite hx (fun _ hx => ?_) (fun _ hx => ?_)
      · obtain ⟨r20, h19, hx⟩ := vb_bind hx
        obtain ⟨r23, h22, hx⟩ := vb_bind hx
        refine vb_ite hx (fun _ hx => ?_) (fun _ hx => ?_)
        · refine vb_ite hx (fun _ hx => ?_) (fun _ hx => ?_)
          · obtain ⟨m29, h27, hx⟩ := vb_bind hx
            have hx := Option.some.inj hx
            subst hx
            exact ((eg_u_nj (fun z => vne hc (a := 74) (by decide) z.2)).trans ((fg_240 hfor h27 (vsub hc (by decide))).trans rfl)).symm.trans hK
          · obtain ⟨m32, h30, hx⟩ := vb_bind hx
            obtain ⟨m35, h33, hx⟩ := vb_bind hx
            obtain ⟨m38, h36, hx⟩ := vb_bind hx
            obtain ⟨r40, h39, hx⟩ := vb_bind hx
            refine vb_ite hx (fun _ hx => ?_) (fun _ hx => ?_)
            · have hx := Option.some.inj hx
              subst hx
              exact ((fg_239 hfor h39 (vsub hc (by decide))).trans ((fg_240 hfor h36 (vsub hc (by decide))).trans ((fg_240 hfor h33 (vsub hc (by decide))).trans ((fg_240 hfor h30 (vsub hc (by decide))).trans rfl)))).symm.trans hK
            · obtain ⟨m45, h43, hx⟩ := vb_bind hx
              have hx := Option.some.inj hx
              subst hx
              exact ((eg_u_nj (fun z => vne hc (a := 74) (by decide) z.2)).trans ((fg_240 hfor h43 (vsub hc (by decide))).trans ((fg_239 hfor h39 (vsub hc (by decide))).trans ((fg_240 hfor h36 (vsub hc (by decide))).trans ((fg_240 hfor h33 (vsub hc (by decide))).trans ((fg_240 hfor h30 (vsub hc (by decide))).trans rfl)))))).symm.trans hK
        · obtain ⟨m48, h46, hx⟩ := vb_bind hx
          obtain ⟨_, hx⟩ := vb_if hx
          have hx := Option.some.inj hx
          subst hx
          exact ((congrFun (eg_u_ne (vn45 hfor (a := 87) (by decide))) j).trans ((fg_240 hfor h46 (vsub hc (by decide))).trans rfl)).symm.trans hK
      · obtain ⟨r51, h50, hx⟩ := vb_bind hx
        obtain ⟨r54, h53, hx⟩ := vb_bind hx
        refine vb_ite hx (fun _ hx => ?_) (fun _ hx => ?_)
        · have hx := Option.some.inj hx
          subst hx
          exact ((fg_239 hfor h53 (vsub hc (by decide))).trans rfl).symm.trans hK
        · have hx := Option.some.inj hx
          subst hx
          exact ((fg_239 hfor h53 (vsub hc (by decide))).trans rfl).symm.trans hK
theorem fg_238 {M : eM} {c j : Nat} (hfor : c = 45) {a : Int} {x : eM} (hx : fn_238 a M = some x) (hc : j ∉ ([72, 73, 74] : List Nat)) : x c j = M c j := by
  obtain ⟨v, hK⟩ : ∃ v, x c j = v := ⟨_, rfl⟩
  rw [hK]
  refine Eq.symm ?_
  obtain ⟨r2, h1, hx⟩ := vb_bind hx
  obtain ⟨r5, h4, hx⟩ := vb_bind hx
  refine vb_ite hx (fun _ hx => ?_) (fun _ hx => ?_)
  · have hz := fg_238_22 hfor hc hx hK
    exact ((fg_239 hfor h1 (vsub hc (by decide))).trans ((eg_u_nj (fun z => vne hc (a := 74) (by decide) z.2)).trans ((eg_u_nj (fun z => vne hc (a := 73) (by decide) z.2)).trans rfl))).symm.trans hz
  · refine vb_ite hx (fun _ hx => ?_) (fun _ hx => ?_)
    · have hz := fg_238_22 hfor hc hx hK
      exact ((fg_239 hfor h1 (vsub hc (by decide))).trans ((eg_u_nj (fun z => vne hc (a := 74) (by decide) z.2)).trans ((eg_u_nj (fun z => vne hc (a := 73) (by decide) z.2)).trans rfl))).symm.trans hz
    · have hz := fg_238_22 hfor hc hx hK
      exact ((fg_239 hfor h1 (vsub hc (by decide))).trans ((eg_u_nj (fun z => vne hc (a := 74) (by decide) z.2)).trans ((eg_u_nj (fun z => vne hc (a := 73) (by decide) z.2)).trans rfl))).symm.trans hz
theorem fg_237 {M : eM} {c j : Nat} (hfor : c = 45) {a : Int} {b : Int} {x : Int × eM} (hx : fn_237 a b M = some x) (hc : j ∉ ([42, 70, 72, 73, 74] : List Nat)) : ((x).2) c j = M c j := by
  obtain ⟨v, hK⟩ : ∃ v, ((x).2) c j = v := ⟨_, rfl⟩
  rw [hK]
  refine Eq.symm ?_
  refine vb_ite hx (fun _ hx => ?_) (fun _ hx => ?_)
  · obtain ⟨_, hx⟩ := vb_if hx
    refine vb_ite hx (fun _ hx => ?_) (fun _ hx => ?_)
    · obtain ⟨r5, h4, hx⟩ := vb_bind hx
      refine vb_ite hx (fun _ hx => ?_) (fun _ hx => ?_)
      · obtain ⟨r9, h8, hx⟩ := vb_bind hx
        obtain ⟨_, hx⟩ := vb_if hx
        refine vb_ite hx (fun _ hx => ?_) (fun _ hx => ?_)
        · obtain ⟨r14, h13, hx⟩ := vb_bind hx
          obtain ⟨_, hx⟩ := vb_if hx
          obtain ⟨r18, h17, hx⟩ := vb_bind hx
          have hx := Option.some.inj hx
          subst hx
          exact ((fg_229 hfor h17 (vsub hc (by decide))).trans rfl).symm.trans hK
        · obtain ⟨r21, h20, hx⟩ := vb_bind hx
          obtain ⟨_, hx⟩ := vb_if hx
          obtain ⟨r25, h24, hx⟩ := vb_bind hx
          obtain ⟨_, hx⟩ := vb_if hx
          obtain ⟨r29, h28, hx⟩ := vb_bind hx
          have hx := Option.some.inj hx
          subst hx
          exact ((fg_229 hfor h28 (vsub hc (by decide))).trans ((congrFun (eg_u_ne (vn45 hfor (a := 66) (by decide))) j).trans ((eg_u_nj (fun z => vne hc (a := 42) (by decide) z.2)).trans rfl))).symm.trans hK
      · obtain ⟨r32, h31, hx⟩ := vb_bind hx
        have hx := Option.some.inj hx
        subst hx
        exact ((fg_229 hfor h31 (vsub hc (by decide))).trans rfl).symm.trans hK
    · obtain ⟨m36, h34, hx⟩ := vb_bind hx
      obtain ⟨r38, h37, hx⟩ := vb_bind hx
      have hx := Option.some.inj hx
      subst hx
      exact ((fg_229 hfor h37 (vsub hc (by decide))).trans ((fg_238 hfor h34 (vsub hc (by decide))).trans rfl)).symm.trans hK
  · obtain ⟨r41, h40, hx⟩ := vb_bind hx
    have hx := Option.some.inj hx
    subst hx
    exact ((fg_229 hfor h40 (vsub hc (by decide))).trans rfl).symm.trans hK
theorem fg_226 {M : eM} {c j : Nat} (hfor : c = 45) {a : Int} {b : Int} {x : Int × eM} (hx : fn_226 a b M = some x) (hc : j ∉ ([28, 29, 38, 41, 42, 43, 45, 48, 64, 66, 67, 69, 70, 72, 73, 74] : List Nat)) : ((x).2) c j = M c j := by
  obtain ⟨v, hK⟩ : ∃ v, ((x).2) c j = v := ⟨_, rfl⟩
  rw [hK]
  refine Eq.symm ?_
  refine vb_ite hx (fun _ hx => ?_) (fun _ hx => ?_)
  · refine vb_ite hx (fun _ hx => ?_) (fun _ hx => ?_)
    · refine vb_ite hx (fun _ hx => ?_) (fun _ hx => ?_)
      · obtain ⟨r5, h4, hx⟩ := vb_bind hx
        have hx := Option.some.inj hx
        subst hx
        exact ((fg_237 hfor h4 (vsub hc (by decide))).trans rfl).symm.trans hK
      · obtain ⟨r8, h7, hx⟩ := vb_bind hx
        have hx := Option.some.inj hx
        subst hx
        exact ((fg_233 hfor h7 (vsub hc (by decide))).trans rfl).symm.trans hK
    · obtain ⟨r11, h10, hx⟩ := vb_bind hx
      have hx := Option.some.inj hx
      subst hx
      exact ((fg_230 hfor h10 (vsub hc (by decide))).trans rfl).symm.trans hK
  · obtain ⟨_, hx⟩ := vb_if hx
    obtain ⟨_, hx⟩ := vb_if hx
    obtain ⟨r16, h15, hx⟩ := vb_bind hx
    have hx := Option.some.inj hx
    subst hx
    exact ((fg_227 hfor h15 (vsub hc (by decide))).trans rfl).symm.trans hK
theorem fg_222 {M : eM} {c j : Nat} (hfor : c = 45) {a : Int} {b : Int} {x : Int × eM} (hx : fn_222 a b M = some x) (hc : j ∉ ([28, 29, 38, 41, 42, 43, 45, 48, 51, 53, 64, 66, 67, 68, 69, 70, 72, 73, 74] : List Nat)) : ((x).2) c j = M c j := by
  obtain ⟨v, hK⟩ : ∃ v, ((x).2) c j = v := ⟨_, rfl⟩
  rw [hK]
  refine Eq.symm ?_
  obtain ⟨_, hx⟩ := vb_if hx
  obtain ⟨r3, h2, hx⟩ := vb_bind hx
  refine vb_ite hx (fun _ hx => ?_) (fun _ hx => ?_)
  · refine vb_ite hx (fun _ hx => ?_) (fun _ hx => ?_)
    · obtain ⟨r8, h7, hx⟩ := vb_bind hx
      have hx := Option.some.inj hx
      subst hx
      exact ((fg_185 hfor h7 (vsub hc (by decide))).trans rfl).symm.trans hK
    · refine vb_ite hx (fun _ hx => ?_) (fun _ hx => ?_)
      · obtain ⟨r12, h11, hx⟩ := vb_bind hx
        refine vb_ite hx (fun _ hx => ?_) (fun _ hx => ?_)
        · refine vb_ite hx (fun _ hx => ?_) (fun _ hx => ?_)
          · obtain ⟨r17, h16, hx⟩ := vb_bind hx
            refine vb_ite hx (fun _ hx => ?_) (fun _ hx => ?_)
            · obtain ⟨r21, h20, hx⟩ := vb_bind hx
              have hx := Option.some.inj hx
              subst hx
              exact ((fg_213 hfor h20 (vsub hc (by decide))).trans ((fg_226 hfor h16 (vsub hc (by decide))).trans rfl)).symm.trans hK
            · have hx := Option.some.inj hx
              subst hx
              exact ((fg_226 hfor h16 (vsub hc (by decide))).trans rfl).symm.trans hK
          · obtain ⟨r24, h23, hx⟩ := vb_bind hx
            refine vb_ite hx (fun _ hx => ?_) (fun _ hx => ?_)
            · obtain ⟨_, hx⟩ := vb_if hx
              obtain ⟨m30, h28, hx⟩ := vb_bind hx
              have hx := Option.some.inj hx
              subst hx
              exact ((fg_209 hfor h28 (vsub hc (by decide))).trans ((eg_u_nj (fun z => vne hc (a := 51) (by decide) z.2)).trans ((congrFun (eg_u_ne (vn45 hfor (a := 80) (by decide))) j).trans ((fg_197 hfor h23 (vsub hc (by decide))).trans rfl)))).symm.trans hK
            · obtain ⟨r32, h31, hx⟩ := vb_bind hx
              have hx := Option.some.inj hx
              subst hx
              exact ((fg_185 hfor h31 (vsub hc (by decide))).trans ((fg_197 hfor h23 (vsub hc (by decide))).trans rfl)).symm.trans hK
        · obtain ⟨r35, h34, hx⟩ := vb_bind hx
          have hx := Option.some.inj hx
          subst hx
          exact ((fg_185 hfor h34 (vsub hc (by decide))).trans rfl).symm.trans hK
      · obtain ⟨r38, h37, hx⟩ := vb_bind hx
        have hx := Option.some.inj hx
        subst hx
        exact ((fg_185 hfor h37 (vsub hc (by decide))).trans rfl).symm.trans hK
  · obtain ⟨r41, h40, hx⟩ := vb_bind hx
    obtain ⟨_, hx⟩ := vb_if hx
    obtain ⟨r45, h44, hx⟩ := vb_bind hx
    obtain ⟨_, hx⟩ := vb_if hx
    refine vb_ite hx (fun _ hx => ?_) (fun _ hx => ?_)
    · obtain ⟨r50, h49, hx⟩ := vb_bind hx
      have hx := Option.some.inj hx
      subst hx
      exact ((fg_224 hfor h49 (vsub hc (by decide))).trans rfl).symm.trans hK
    · obtain ⟨r53, h52, hx⟩ := vb_bind hx
      have hx := Option.some.inj hx
      subst hx
      exact ((fg_185 hfor h52 (vsub hc (by decide))).trans rfl).symm.trans hK
theorem fg_221 {M : eM} {c j : Nat} (hfor : c = 45) {x : Int × eM} (hx : fn_221 M = some x) (hc : j ∉ ([28, 29, 38, 41, 42, 43, 45, 48, 51, 53, 64, 66, 67, 68, 69, 70, 72, 73, 74] : List Nat)) : ((x).2) c j = M c j := by
  obtain ⟨v, hK⟩ : ∃ v, ((x).2) c j = v := ⟨_, rfl⟩
  rw [hK]
  refine Eq.symm ?_
  obtain ⟨_, hx⟩ := vb_if hx
  refine vb_ite hx (fun _ hx => ?_) (fun _ hx => ?_)
  · obtain ⟨m5, h3, hx⟩ := vb_bind hx
    obtain ⟨_, hx⟩ := vb_if hx
    refine vb_ite hx (fun _ hx => ?_) (fun _ hx => ?_)
    · obtain ⟨r14, h13, hx⟩ := vb_bind hx
      have hx := Option.some.inj hx
      subst hx
      exact ((fg_222 hfor h13 (vsub hc (by decide))).trans ((congrFun (eg_u_ne (vn45 hfor (a := 80) (by decide))) j).trans ((fg_217 hfor h3 (vsub hc (by decide))).trans rfl))).symm.trans hK
    · have hx := Option.some.inj hx
      subst hx
      exact ((congrFun (eg_u_ne (vn45 hfor (a := 80) (by decide))) j).trans ((fg_217 hfor h3 (vsub hc (by decide))).trans rfl)).symm.trans hK
  · obtain ⟨r17, h16, hx⟩ := vb_bind hx
    have hx := Option.some.inj hx
    subst hx
    exact ((fg_213 hfor h16 (vsub hc (by decide))).trans rfl).symm.trans hK
theorem fg_246_30 {c j : Nat} (hfor : c = 45) {v : Int} {x1 : Int} {s : Int × eM} {x : Int × eM} (hc : j ∉ ([28, 29, 38, 41, 43, 45, 48, 51, 53, 64, 66, 67, 68, 69, 70] : List Nat)) (hx : lp (fun z => fn_246_30 x1 z.1 z.2) s = some x) (hK : (fun (x : Int × eM) => ((x).2) c j = v) x) : s.2 c j = v := by
  refine lp_sound (P := (fun (s : Int × eM) => s.2 c j = v)) (K := (fun (x : Int × eM) => ((x).2) c j = v)) hx hK ?_
  intro s x hx hK
  obtain ⟨s1, s2⟩ := s
  refine vb_ite hx (fun _ hx => ?_) (fun _ hx => ?_)
  · obtain ⟨_, hx⟩ := vb_if hx
    obtain ⟨r13, h12, hx⟩ := vb_bind hx
    have hx := Option.some.inj hx
    subst hx
    exact ((fg_224 hfor h12 (vsub hc (by decide))).trans rfl).symm.trans hK
  · obtain ⟨_, hx⟩ := vb_if hx
    obtain ⟨_, hx⟩ := vb_if hx
    have hx := Option.some.inj hx
    subst hx
    exact ((congrFun (eg_u_ne (vn45 hfor (a := 75) (by decide))) j).trans ((congrFun (eg_u_ne (vn45 hfor (a := 76) (by decide))) j).trans rfl)).symm.trans hK
theorem fg_246 {M : eM} {c j : Nat} (hfor : c = 45) {x : Int × eM} (hx : fn_246 M = some x) (hc : j ∉ ([28, 29, 38, 41, 43, 45, 48, 51, 53, 64, 66, 67, 68, 69, 70] : List Nat)) : ((x).2) c j = M c j := by
  obtain ⟨v, hK⟩ : ∃ v, ((x).2) c j = v := ⟨_, rfl⟩
  rw [hK]
  refine Eq.symm ?_
  refine vb_ite hx (fun _ hx => ?_) (fun _ hx => ?_)
  · obtain ⟨_, hx⟩ := vb_if hx
    obtain ⟨m5, h3, hx⟩ := vb_bind hx
    obtain ⟨m9, h7, hx⟩ := vb_bind hx
    have hz := fg_246_30 hfor hc hx hK
    exact ((eg_u_nj (fun z => vne hc (a := 48) (by decide) z.2)).trans ((fg_217 hfor h7 (vsub hc (by decide))).trans ((fg_217 hfor h3 (vsub hc (by decide))).trans rfl))).symm.trans hz
  · obtain ⟨r20, h19, hx⟩ := vb_bind hx
    have hx := Option.some.inj hx
    subst hx
    exact ((fg_213 hfor h19 (vsub hc (by decide))).trans rfl).symm.trans hK
theorem fg_211 {M : eM} {c j : Nat} (hfor : c = 45) {a : Int} {x : Int × eM} (hx : fn_211 a M = some x) (hc : j ∉ ([28, 29, 38, 41, 42, 43, 45, 48, 51, 53, 64, 66, 67, 68, 69, 70, 72, 73, 74] : List Nat)) : ((x).2) c j = M c j := by
  obtain ⟨v, hK⟩ : ∃ v, ((x).2) c j = v := ⟨_, rfl⟩
  rw [hK]
  refine Eq.symm ?_
  obtain ⟨_, hx⟩ := vb_if hx
  refine vb_ite hx (fun _ hx => ?_) (fun _ hx => ?_)
  · refine vb_ite hx (fun _ hx => ?_) (fun _ hx => ?_)
    · have hx := Option.some.inj hx
      subst hx
      exact (Eq.refl _).symm.trans hK
    · obtain ⟨r5, h4, hx⟩ := vb_bind hx
      have hx := Option.some.inj hx
      subst hx
      exact ((fg_212 hfor h4 (vsub hc (by decide))).trans rfl).symm.trans hK
  refine vb_ite hx (fun _ hx => ?_) (fun _ hx => ?_)
  · refine vb_ite hx (fun _ hx => ?_) (fun _ hx => ?_)
    · have hx := Option.some.inj hx
      subst hx
      exact (Eq.refl _).symm.trans hK
    · obtain ⟨r9, h8, hx⟩ := vb_bind hx
      have hx := Option.some.inj hx
      subst hx
      exact ((fg_215 hfor h8 (vsub hc (by decide))).trans rfl).symm.trans hK
  refine vb_ite hx (fun _ hx => ?_) (fun _ hx => ?_)
  · refine vb_ite hx (fun _ hx => ?_) (fun _ hx => ?_)
    · have hx := Option.some.inj hx
      subst hx
      exact (Eq.refl _).symm.trans hK
    · obtain ⟨r13, h12, hx⟩ := vb_bind hx
      have hx := Option.some.inj hx
      subst hx
      exact ((fg_215 hfor h12 (vsub hc (by decide))).trans rfl).symm.trans hK
  refine vb_ite hx (fun _ hx => ?_) (fun _ hx => ?_)
  · obtain ⟨r16, h15, hx⟩ := vb_bind hx
    have hx := Option.some.inj hx
    subst hx
    exact ((fg_246 hfor h15 (vsub hc (by decide))).trans rfl).symm.trans hK
  refine vb_ite hx (fun _ hx => ?_) (fun _ hx => ?_)
  · obtain ⟨r19, h18, hx⟩ := vb_bind hx
    have hx := Option.some.inj hx
    subst hx
    exact ((fg_216 hfor h18 (vsub hc (by decide))).trans rfl).symm.trans hK
  refine vb_ite hx (fun _ hx => ?_) (fun _ hx => ?_)
  · refine vb_ite hx (fun _ hx => ?_) (fun _ hx => ?_)
    · have hx := Option.some.inj hx
      subst hx
      exact (Eq.refl _).symm.trans hK
    · obtain ⟨r23, h22, hx⟩ := vb_bind hx
      have hx := Option.some.inj hx
      subst hx
      exact ((fg_218 hfor h22 (vsub hc (by decide))).trans rfl).symm.trans hK
  refine vb_ite hx (fun _ hx => ?_) (fun _ hx => ?_)
  · refine vb_ite hx (fun _ hx => ?_) (fun _ hx => ?_)
    · have hx := Option.some.inj hx
      subst hx
      exact (Eq.refl _).symm.trans hK
    · obtain ⟨r27, h26, hx⟩ := vb_bind hx
      have hx := Option.some.inj hx
      subst hx
      exact ((fg_219 hfor h26 (vsub hc (by decide))).trans rfl).symm.trans hK
  refine vb_ite hx (fun _ hx => ?_) (fun _ hx => ?_)
  · obtain ⟨r30, h29, hx⟩ := vb_bind hx
    have hx := Option.some.inj hx
    subst hx
    exact ((fg_220 hfor h29 (vsub hc (by decide))).trans rfl).symm.trans hK
  refine vb_ite hx (fun _ hx => ?_) (fun _ hx => ?_)
  · obtain ⟨r33, h32, hx⟩ := vb_bind hx
    have hx := Option.some.inj hx
    subst hx
    exact ((fg_220 hfor h32 (vsub hc (by decide))).trans rfl).symm.trans hK
  refine vb_ite hx (fun _ hx => ?_) (fun _ hx => ?_)
  · refine vb_ite hx (fun _ hx => ?_) (fun _ hx => ?_)
    · have hx := Option.some.inj hx
      subst hx
      exact (Eq.refl _).symm.trans hK
    · obtain ⟨r37, h36, hx⟩ := vb_bind hx
      have hx := Option.some.inj hx
      subst hx
      exact ((fg_221 hfor h36 (vsub hc (by decide))).trans rfl).symm.trans hK
  refine vb_ite hx (fun _ hx => ?_) (fun _ hx => ?_)
  · refine vb_ite hx (fun _ hx => ?_) (fun _ hx => ?_)
    · have hx := Option.some.inj hx
      subst hx
      exact (Eq.refl _).symm.trans hK
    · obtain ⟨r41, h40, hx⟩ := vb_bind hx
      have hx := Option.some.inj hx
      subst hx
      exact ((fg_218 hfor h40 (vsub hc (by decide))).trans rfl).symm.trans hK
  refine vb_ite hx (fun _ hx => ?_) (fun _ hx => ?_)
  · obtain ⟨r44, h43, hx⟩ := vb_bind hx
    have hx := Option.some.inj hx
    subst hx
    exact ((fg_246 hfor h43 (vsub hc (by decide))).trans rfl).symm.trans hK
  refine vb_ite hx (fun _ hx => ?_) (fun _ hx => ?_)
  · obtain ⟨r47, h46, hx⟩ := vb_bind hx
    have hx := Option.some.inj hx
    subst hx
    exact ((fg_246 hfor h46 (vsub hc (by decide))).trans rfl).symm.trans hK
  refine vb_ite hx (fun _ hx => ?_) (fun _ hx => ?_)
  · refine vb_ite hx (fun _ hx => ?_) (fun _ hx => ?_)
    · have hx := Option.some.inj hx
      subst hx
      exact (Eq.refl _).symm.trans hK
    · obtain ⟨r51, h50, hx⟩ := vb_bind hx
      have hx := Option.some.inj hx
      subst hx
      exact ((fg_213 hfor h50 (vsub hc (by decide))).trans rfl).symm.trans hK
  obtain ⟨r54, h53, hx⟩ := vb_bind hx
  have hx := Option.some.inj hx
  subst hx
  exact ((fg_246 hfor h53 (vsub hc (by decide))).trans rfl).symm.trans hK
theorem fg_210_13 {M : eM} {c j : Nat} (hfor : c = 45) {v : Int} {x1 : Int} {y0 : Int} {x : (Int × eM) ⊕ (Int × eM)} (hc : j ∉ ([28, 29, 38, 41, 42, 43, 45, 48, 51, 53, 59, 62, 63, 64, 66, 67, 68, 69, 70, 72, 73, 74] : List Nat)) (hx : fn_210_13 x1 y0 M = some x) (hK : (eK (fun (s : Int × eM) => s.2 c j = v) (fun (x : Int × eM) => ((x).2) c j = v)) x) : M c j = v := by
  obtain ⟨r7, h6, hx⟩ := vb_bind hx
  refine vb_ite hx (fun _ hx => ?_) (fun _ hx => ?_)
  · refine vb_ite hx (fun _ hx => ?_) (fun _ hx => ?_)
    · have hx := Option.some.inj hx
      subst hx
      exact ((fg_211 hfor h6 (vsub hc (by decide))).trans rfl).symm.trans hK
    · have hx := Option.some.inj hx
      subst hx
      exact ((fg_211 hfor h6 (vsub hc (by decide))).trans rfl).symm.trans hK
  · obtain ⟨_, hx⟩ := vb_if hx
    refine vb_ite hx (fun _ hx => ?_) (fun _ hx => ?_)
    · obtain ⟨r16, h15, hx⟩ := vb_bind hx
      have hx := Option.some.inj hx
      subst hx
      exact ((fg_184 hfor h15 (vsub hc (by decide))).trans ((fg_211 hfor h6 (vsub hc (by decide))).trans rfl)).symm.trans hK
    · obtain ⟨r20, h19, hx⟩ := vb_bind hx
      obtain ⟨r24, h23, hx⟩ := vb_bind hx
      have hx := Option.some.inj hx
      subst hx
      exact ((fg_184 hfor h23 (vsub hc (by decide))).trans ((fg_211 hfor h6 (vsub hc (by decide))).trans rfl)).symm.trans hK
theorem fg_210_2 {c j : Nat} (hfor : c = 45) {v : Int} {x1 : Int} {s : Int × eM} {x : Int × eM} (hc : j ∉ ([28, 29, 38, 41, 42, 43, 45, 48, 51, 53, 59, 62, 63, 64, 66, 67, 68, 69, 70, 72, 73, 74] : List Nat)) (hx : lp (fun z => fn_210_2 x1 z.1 z.2) s = some x) (hK : (fun (x : Int × eM) => ((x).2) c j = v) x) : s.2 c j = v := by
  refine lp_sound (P := (fun (s : Int × eM) => s.2 c j = v)) (K := (fun (x : Int × eM) => ((x).2) c j = v)) hx hK ?_
  intro s x hx hK
  obtain ⟨s1, s2⟩ := s
  refine vb_ite hx (fun _ hx => ?_) (fun _ hx => ?_)
  · refine vb_ite hx (fun _ hx => ?_) (fun _ hx => ?_)
    · have hx := Option.some.inj hx
      subst hx
      exact (Eq.refl _).symm.trans hK
    · have hx := Option.some.inj hx
      subst hx
      exact (Eq.refl _).symm.trans hK
  · refine vb_ite hx (fun _ hx => ?_) (fun _ hx => ?_)
    · refine vb_ite hx (fun _ hx => ?_) (fun _ hx => ?_)
      · have hx := Option.some.inj hx
        subst hx
        exact (Eq.refl _).symm.trans hK
      · have hx := Option.some.inj hx
        subst hx
        exact (Eq.refl _).symm.trans hK
    · refine vb_ite hx (fun _ hx => ?_) (fun _ hx => ?_)
      · have hz := fg_210_13 hfor hc hx hK
        exact (Eq.refl _).symm.trans hz
      · have hz := fg_210_13 hfor hc hx hK
        exact (Eq.refl _).symm.trans hz
theorem fg_210 {M : eM} {c j : Nat} (hfor : c = 45) {a : Int} {x : Int × eM} (hx : fn_210 a M = some x) (hc : j ∉ ([28, 29, 38, 41, 42, 43, 45, 48, 51, 53, 59, 62, 63, 64, 66, 67, 68, 69, 70, 72, 73, 74] : List Nat)) : ((x).2) c j = M c j := by
  obtain ⟨v, hK⟩ : ∃ v, ((x).2) c j = v := ⟨_, rfl⟩
  rw [hK]
  refine Eq.symm ?_
  have hz := fg_210_2 hfor hc hx hK
  exact (Eq.refl _).symm.trans hz
theorem fg_183_3 {c j : Nat} (hfor : c = 45) {v : Int} {s : Int × eM} {x : Int × eM} (hc : j ∉ ([28, 29, 38, 41, 42, 43, 45, 48, 51, 53, 59, 62, 63, 64, 66, 67, 68, 69, 70, 72, 73, 74] : List Nat)) (hx : lp (fun z => fn_183_3 z.1 z.2) s = some x) (hK : (fun (x : Int × eM) => ((x).2) c j = v) x) : s.2 c j = v := by
  refine lp_sound (P := (fun (s : Int × eM) => s.2 c j = v)) (K := (fun (x : Int × eM) => ((x).2) c j = v)) hx hK ?_
  intro s x hx hK
  obtain ⟨s1, s2⟩ := s
  refine vb_ite hx (fun _ hx => ?_) (fun _ hx => ?_)
  · have hx := Option.some.inj hx
    subst hx
    exact (Eq.refl _).symm.trans hK
  · obtain ⟨r3, h2, hx⟩ := vb_bind hx
    obtain ⟨r6, h5, hx⟩ := vb_bind hx
    refine vb_ite hx (fun _ hx => ?_) (fun _ hx => ?_)
    · obtain ⟨m11, h9, hx⟩ := vb_bind hx
      obtain ⟨r13, h12, hx⟩ := vb_bind hx
      refine vb_ite hx (fun _ hx => ?_) (fun _ hx => ?_)
      · obtain ⟨_, hx⟩ := vb_if hx
        have hx := Option.some.inj hx
        subst hx
        exact ((fg_210 hfor h12 (vsub hc (by decide))).trans ((fg_209 hfor h9 (vsub hc (by decide))).trans ((fg_210 hfor h5 (vsub hc (by decide))).trans ((fg_184 hfor h2 (vsub hc (by decide))).trans rfl)))).symm.trans hK
      · have hx := Option.some.inj hx
        subst hx
        exact ((fg_210 hfor h12 (vsub hc (by decide))).trans ((fg_209 hfor h9 (vsub hc (by decide))).trans ((fg_210 hfor h5 (vsub hc (by decide))).trans ((fg_184 hfor h2 (vsub hc (by decide))).trans rfl)))).symm.trans hK
    · have hx := Option.some.inj hx
      subst hx
      exact ((fg_210 hfor h5 (vsub hc (by decide))).trans ((fg_184 hfor h2 (vsub hc (by decide))).trans rfl)).symm.trans hK
theorem fg_183 {M : eM} {c j : Nat} (hfor : c = 45) {x : Int × eM} (hx : fn_183 M = some x) (hc : j ∉ ([28, 29, 38, 41, 42, 43, 45, 48, 51, 53, 59, 62, 63, 64, 66, 67, 68, 69, 70, 72, 73, 74] : List Nat)) : ((x).2) c j = M c j := by
  obtain ⟨v, hK⟩ : ∃ v, ((x).2) c j = v := ⟨_, rfl⟩
  rw [hK]
  refine Eq.symm ?_
  have hz := fg_183_3 hfor hc hx hK
  exact (Eq.refl _).symm.trans hz
theorem fg_157_31 {M : eM} {c j : Nat} (hfor : c = 45) {v : Int} {x1 : Int} {x2 : Int} {x3 : Int} {x : Int × eM} (hc : j ∉ ([1, 2, 3, 4, 7, 16, 17, 18, 21, 22, 23, 28, 29, 38, 41, 42, 43, 45, 48, 51, 53, 59, 62, 63, 64, 66, 67, 68, 69, 70, 72, 73, 74] : List Nat)) (hx : fn_157_31 x1 x2 x3 M = some x) (hK : (fun (x : Int × eM) => ((x).2) c j = v) x) : M c j = v := by
  refine vb_ite hx (fun _ hx => ?_) (fun _ hx => ?_)
  · obtain ⟨r11, h10, hx⟩ := vb_bind hx
    have hx := Option.some.inj hx
    subst hx
    exact ((eg_u_nj (fun z => vne hc (a := 63) (by decide) z.2)).trans ((eg_u_nj (fun z => vne hc (a := 62) (by decide) z.2)).trans ((eg_u_nj (fun z => vne hc (a := 68) (by decide) z.2)).trans ((eg_u_nj (fun z => vne hc (a := 59) (by decide) z.2)).trans ((eg_u_nj (fun z => vne hc (a := 51) (by decide) z.2)).trans ((eg_u_nj (fun z => vne hc (a := 53) (by decide) z.2)).trans ((fg_183 hfor h10 (vsub hc (by decide))).trans ((eg_u_nj (fun z => vne hc (a := 17) (by decide) z.2)).trans rfl)))))))).symm.trans hK
  · have hx := Option.some.inj hx
    subst hx
    exact (Eq.refl _).symm.trans hK
theorem fg_157 {M : eM} {c j : Nat} (hfor : c = 45) {a : Int} {b : Int} {x : Int × eM} (hx : fn_157 a b M = some x) (hc : j ∉ ([1, 2, 3, 4, 7, 16, 17, 18, 21, 22, 23, 28, 29, 38, 41, 42, 43, 45, 48, 51, 53, 59, 62, 63, 64, 66, 67, 68, 69, 70, 72, 73, 74] : List Nat)) : ((x).2) c j = M c j := by
  obtain ⟨v, hK⟩ : ∃ v, ((x).2) c j = v := ⟨_, rfl⟩
  rw [hK]
  refine Eq.symm ?_
  refine vb_ite hx (fun _ hx => ?_) (fun _ hx => ?_)
  · have hx := Option.some.inj hx
    subst hx
    exact (Eq.refl _).symm.trans hK
  · refine vb_ite hx (fun _ hx => ?_) (fun _ hx => ?_)
    · have hx := Option.some.inj hx
      subst hx
      exact (Eq.refl _).symm.trans hK
    · refine vb_ite hx (fun _ hx => ?_) (fun _ hx => ?_)
      · have hx := Option.some.inj hx
        subst hx
        exact (Eq.refl _).symm.trans hK
      · refine vb_ite hx (fun _ hx => ?_) (fun _ hx => ?_)
        · obtain ⟨r6, h5, hx⟩ := vb_bind hx
          refine vb_ite hx (fun _ hx => ?_) (fun _ hx => ?_)
          · have hz := fg_157_31 hfor hc hx hK
            exact ((fg_158 hfor h5 (vsub hc (by decide))).trans ((eg_u_nj (fun z => vne hc (a := 67) (by decide) z.2)).trans ((eg_u_nj (fun z => vne hc (a := 2) (by decide) z.2)).trans ((eg_u_nj (fun z => vne hc (a := 1) (by decide) z.2)).trans rfl)))).symm.trans hz
          · obtain ⟨r14, h13, hx⟩ := vb_bind hx
            have hz := fg_157_31 hfor hc hx hK
            exact ((fg_170 hfor h13 (vsub hc (by decide))).trans ((fg_158 hfor h5 (vsub hc (by decide))).trans ((eg_u_nj (fun z => vne hc (a := 67) (by decide) z.2)).trans ((eg_u_nj (fun z => vne hc (a := 2) (by decide) z.2)).trans ((eg_u_nj (fun z => vne hc (a := 1) (by decide) z.2)).trans rfl))))).symm.trans hz
        · have hx := Option.some.inj hx
          subst hx
          exact (Eq.refl _).symm.trans hK
