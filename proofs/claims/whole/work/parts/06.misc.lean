theorem it_t {α : Type} {P : Prop} [Decidable P] {a b : Option α} {y : α} (h : (if P then a else b) = some y) (c : P) : a = some y := by rw [if_pos c] at h; exact h
theorem it_f {α : Type} {P : Prop} [Decidable P] {a b : Option α} {y : α} (h : (if P then a else b) = some y) (c : ¬ P) : b = some y := by rw [if_neg c] at h; exact h
def wk (m : List Bool) (ls : LV) : LV := (List.range ls.length).map (fun i => if m.getD i false then ls.getD i none else none)
theorem Z_wk {x : CX} {pc : Nat} {ls : LV} {st : List AV} {w : Wd} (m : List Bool) (ls' : LV) (h : wk m ls = ls') (k : Z x pc ls' st w) : Z x pc ls st w := fun H locs la hl hP hS => by
  subst h
  refine k H locs la ⟨by rw [hl.1]; unfold wk; rw [List.length_map, List.length_range], hl.2.1, fun i v hv => ?_⟩ hP hS
  unfold wk at hv
  rw [List.getElem?_map] at hv
  cases hr : (List.range ls.length)[i]? with
  | none => rw [hr] at hv; cases hv
  | some j =>
    obtain ⟨hlt, e⟩ := List.getElem?_eq_some_iff.mp hr
    rw [List.getElem_range] at e
    subst e
    rw [hr] at hv
    have hv : (if m.getD i false = true then ls.getD i none else none) = some v := Option.some.inj hv
    by_cases hm : m.getD i false = true
    · rw [if_pos hm] at hv
      apply hl.2.2
      rw [List.getD_eq_getElem?_getD] at hv
      cases hq : ls[i]? with
      | none => rw [hq] at hv; cases hv
      | some o => rw [hq] at hv; rw [← hv]; rfl
    · rw [if_neg hm] at hv; cases hv
theorem Z_swIn {x : CX} {own : String} {cc : ByteArray} {n d pc : Nat} {ls : LV} {st : List AV} {w : Wd} {dflt lo hi m off : Int} {offs : Array Int} {len : Nat} {v : Int32} (hC : Cx x own cc n d) (hd : decode cc pc = .ok (.tableswitch dflt lo hi offs, len)) (hv : v.toInt = m) (h1 : ¬ m < lo) (h2 : ¬ hi < m) (ho : offs[(m - lo).toNat]? = some off) (tgt : Nat) (ht : (pc : Int) + off = (tgt : Int)) (k : Z x tgt ls st w) : Z x pc ls (vi v :: st) w := fun H locs la hl hP hS => by
  subst hv
  exact lv_tableIn hC.1 hC.2.1 hd h1 h2 ho ht (k H locs la hl hP hS)
theorem Z_swOut {x : CX} {own : String} {cc : ByteArray} {n d pc : Nat} {ls : LV} {st : List AV} {w : Wd} {dflt lo hi : Int} {offs : Array Int} {len : Nat} {v : Int32} (hC : Cx x own cc n d) (hd : decode cc pc = .ok (.tableswitch dflt lo hi offs, len)) (tgt : Nat) (ht : (pc : Int) + dflt = (tgt : Int)) (h : v.toInt < lo ∨ hi < v.toInt) (k : Z x tgt ls st w) : Z x pc ls (vi v :: st) w := fun H locs la hl hP hS => lv_tableOut hC.1 hC.2.1 hd h ht (k H locs la hl hP hS)
theorem ne_toInt {x v : Int32} {m : Int} (hv : v.toInt = m) (h : ¬ x = v) : ¬ x.toInt = m := fun e => h (Int32.toInt_inj.mp (e.trans hv.symm))
theorem nz {v : Int32} (h : v = 0 ∨ v = 1) : narrow .boolean (.int v) = .int v := by rcases h with h | h <;> rw [h] <;> rfl
theorem mm_1 (g : Nat) (h : (g, 0) ∈ gis) {i : Nat} (hi : i < 1) : (g, i) ∈ gis := by
  rw [show i = 0 by omega]; exact h
theorem mm_2 (g : Nat) (h0 : (g, 0) ∈ gis) (h1 : (g, 1) ∈ gis) {i : Nat} (hi : i < 2) : (g, i) ∈ gis := by
  rcases (show i = 0 ∨ i = 1 by omega) with rfl | rfl
  · exact h0
  · exact h1
theorem m_11 {i : Nat} (hi : i < 6) : (11, i) ∈ gis := by
  rcases (show i = 0 ∨ i = 1 ∨ i = 2 ∨ i = 3 ∨ i = 4 ∨ i = 5 by omega) with rfl | rfl | rfl | rfl | rfl | rfl <;> decide +kernel
theorem m_14 {i : Nat} (hi : i < 4) : (14, i) ∈ gis := by
  rcases (show i = 0 ∨ i = 1 ∨ i = 2 ∨ i = 3 by omega) with rfl | rfl | rfl | rfl <;> decide +kernel
theorem vp_lt {j : Int32} {n : Nat} (h : vp_in j n) : j.toNatClampNeg < n := Nat.not_le.mp fun q => h (Or.inr q)
theorem m_3 {i : Nat} (hi : i < 2) : (3, i) ∈ gis := mm_2 3 (by decide +kernel) (by decide +kernel) hi
theorem m_4 {i : Nat} (hi : i < 2) : (4, i) ∈ gis := mm_2 4 (by decide +kernel) (by decide +kernel) hi
theorem m_16 {i : Nat} (hi : i < 2) : (16, i) ∈ gis := mm_2 16 (by decide +kernel) (by decide +kernel) hi
theorem m_17 {i : Nat} (hi : i < 2) : (17, i) ∈ gis := mm_2 17 (by decide +kernel) (by decide +kernel) hi
theorem m_18 {i : Nat} (hi : i < 2) : (18, i) ∈ gis := mm_2 18 (by decide +kernel) (by decide +kernel) hi
theorem m_19 {i : Nat} (hi : i < 2) : (19, i) ∈ gis := mm_2 19 (by decide +kernel) (by decide +kernel) hi
theorem m_20 {i : Nat} (hi : i < 2) : (20, i) ∈ gis := mm_2 20 (by decide +kernel) (by decide +kernel) hi
theorem m_21 {i : Nat} (hi : i < 2) : (21, i) ∈ gis := mm_2 21 (by decide +kernel) (by decide +kernel) hi
theorem m_0 : (0, 0) ∈ gis := by decide +kernel
theorem m_1 : (1, 0) ∈ gis := by decide +kernel
theorem m_2 : (2, 0) ∈ gis := by decide +kernel
theorem m_5 : (5, 0) ∈ gis := by decide +kernel
theorem m_10 : (10, 0) ∈ gis := by decide +kernel
theorem m_12 : (12, 0) ∈ gis := by decide +kernel
theorem m_13 : (13, 0) ∈ gis := by decide +kernel
theorem m_15 : (15, 0) ∈ gis := by decide +kernel
theorem m_22 : (22, 0) ∈ gis := by decide +kernel
theorem m_23 : (23, 0) ∈ gis := by decide +kernel
theorem m_24 : (24, 0) ∈ gis := by decide +kernel
theorem m_25 : (25, 0) ∈ gis := by decide +kernel
theorem m_30 : (30, 0) ∈ gis := by decide +kernel
theorem m_31 : (31, 0) ∈ gis := by decide +kernel
theorem m_32 : (32, 0) ∈ gis := by decide +kernel
theorem m_33 : (33, 0) ∈ gis := by decide +kernel
theorem m_34 : (34, 0) ∈ gis := by decide +kernel
theorem m_35 : (35, 0) ∈ gis := by decide +kernel
theorem m_36 : (36, 0) ∈ gis := by decide +kernel
theorem m_37 : (37, 0) ∈ gis := by decide +kernel
theorem m_38 : (38, 0) ∈ gis := by decide +kernel
theorem m_39 : (39, 0) ∈ gis := by decide +kernel
theorem m_40 : (40, 0) ∈ gis := by decide +kernel
theorem m_41 : (41, 0) ∈ gis := by decide +kernel
theorem m_42 : (42, 0) ∈ gis := by decide +kernel
theorem m_43 : (43, 0) ∈ gis := by decide +kernel
theorem m_44 : (44, 0) ∈ gis := by decide +kernel
theorem Z_mmax {x : CX} {own : String} {cc : ByteArray} {n d pc idx : Nat} {ls : LV} {st : List AV} {w : Wd} {x1 x2 : Int32} (hC : Cx x own cc n d) (w1 : Cond.methodLink own idx Lib.Math.max.name ∈ ww) (w2 : Cond.static Lib.Math.max.name ∈ ww) (w4 : Cond.initialized "java/lang/Math" ∈ ww) (w5 : Cond.code Lib.Math.max.name Lib.Math.max.code 2 (some .int) ∈ ww) (hdc : 1 ≤ d) (hln : ls.length = n) (hcat : (st.map cat).sum ≤ 8) (hd : decode cc pc = .ok (.invokestatic idx, 3)) (pc' : Nat) (hp : pc + 3 = pc') (k : Z x pc' ls (vi (if x1 < x2 then x2 else x1) :: st) w) : Z x pc ls (vi x2 :: vi x1 :: st) w := fun H locs la hl hP hS => by
  have hts := hC.2.2.2.1
  have hf := hC.2.2.2.2.2.2.2.2.2.2
  refine va_mmax hC.1 hC.2.1 (by rw [hl.1, hln]; exact hC.2.2.2.2.2.2.2.2.2.1) hC.2.2.1 (hts _ w1) (hts _ w2) (hts _ w4) (hts _ w5) (Nat.le_trans hdc hf.1) (by rw [cats]; have := hf.2.1; omega) hf.2.2.1 hf.2.2.2 hd ?_
  subst hp; exact k H locs la hl hP hS
theorem Z_mmin {x : CX} {own : String} {cc : ByteArray} {n d pc idx : Nat} {ls : LV} {st : List AV} {w : Wd} {x1 x2 : Int32} (hC : Cx x own cc n d) (w1 : Cond.methodLink own idx Lib.Math.min.name ∈ ww) (w2 : Cond.static Lib.Math.min.name ∈ ww) (w4 : Cond.initialized "java/lang/Math" ∈ ww) (w5 : Cond.code Lib.Math.min.name Lib.Math.min.code 2 (some .int) ∈ ww) (hdc : 1 ≤ d) (hln : ls.length = n) (hcat : (st.map cat).sum ≤ 8) (hd : decode cc pc = .ok (.invokestatic idx, 3)) (pc' : Nat) (hp : pc + 3 = pc') (k : Z x pc' ls (vi (if x2 < x1 then x2 else x1) :: st) w) : Z x pc ls (vi x2 :: vi x1 :: st) w := fun H locs la hl hP hS => by
  have hts := hC.2.2.2.1
  have hf := hC.2.2.2.2.2.2.2.2.2.2
  refine va_mmin hC.1 hC.2.1 (by rw [hl.1, hln]; exact hC.2.2.2.2.2.2.2.2.2.1) hC.2.2.1 (hts _ w1) (hts _ w2) (hts _ w4) (hts _ w5) (Nat.le_trans hdc hf.1) (by rw [cats]; have := hf.2.1; omega) hf.2.2.1 hf.2.2.2 hd ?_
  subst hp; exact k H locs la hl hP hS
theorem Z_mabs {x : CX} {own : String} {cc : ByteArray} {n d pc idx : Nat} {ls : LV} {st : List AV} {w : Wd} {x1 : Int32} (hC : Cx x own cc n d) (w1 : Cond.methodLink own idx Lib.Math.abs.name ∈ ww) (w2 : Cond.static Lib.Math.abs.name ∈ ww) (w4 : Cond.initialized "java/lang/Math" ∈ ww) (w5 : Cond.code Lib.Math.abs.name Lib.Math.abs.code 1 (some .int) ∈ ww) (hdc : 1 ≤ d) (hln : ls.length = n) (hcat : (st.map cat).sum ≤ 8) (hd : decode cc pc = .ok (.invokestatic idx, 3)) (pc' : Nat) (hp : pc + 3 = pc') (k : Z x pc' ls (vi (if 0 ≤ x1 then x1 else 0 - x1) :: st) w) : Z x pc ls (vi x1 :: st) w := fun H locs la hl hP hS => by
  have hts := hC.2.2.2.1
  have hf := hC.2.2.2.2.2.2.2.2.2.2
  refine va_mabs hC.1 hC.2.1 (by rw [hl.1, hln]; exact hC.2.2.2.2.2.2.2.2.2.1) hC.2.2.1 (hts _ w1) (hts _ w2) (hts _ w4) (hts _ w5) (Nat.le_trans hdc hf.1) (by rw [cats]; have := hf.2.1; omega) hf.2.2.1 hf.2.2.2 hd ?_
  subst hp; exact k H locs la hl hP hS
