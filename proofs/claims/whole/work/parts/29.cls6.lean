/-! the class: teach, scrap -/
theorem sgn_OK {L : Int} {l : List Int} (hL : 1 ≤ L ∧ L ≤ 3) (h : fltF L l 0 0 = -6) (h2 : ¬ (-1) ∈ sgn L l) : rowOK L (sgn L l) := by
  obtain ⟨a, b, c⟩ := flt_ok h
  refine ⟨by unfold sgn; rw [List.length_map]; exact a, fun x hx => ?_⟩
  unfold sgn at hx h2
  obtain ⟨y, hy, rfl⟩ := List.mem_map.mp hx
  have h3 := padSign_lo (c := y) hL
  have h4 : ¬ padSign L y = -1 := fun z => h2 (by rw [← z]; exact List.mem_map.mpr ⟨y, hy, rfl⟩)
  have h5 := b y hy
  omega
theorem rwAp_of {f t : Nat} (h : f + 1 < t ∨ t + 1 < f) : rwAp f t := ⟨by omega, by omega, by omega, by omega⟩
/-- one man's row is written -/
theorem CoP.teach {μ μ' : Mem} {q : Co} {m : Nat} {l : List Int} (h : CoP μ 3 q) (hm : m < 6) (hl : rowOK q.1 l) (h1 : Rw μ' (7 + 2 * m) l) (h2 : ∀ k, μ' 5 k = if k = m then iI 1 else μ 5 k) (hf : ∀ c, 3 ≤ c → c ≤ 24 → ¬ c = 5 → ¬ c = 7 + 2 * m → ¬ c = 7 + 2 * m + 1 → μ' c = μ c) : CoP μ' 3 (q.1, sMen q.2.1 m (some l), q.2.2) := by
  obtain ⟨g1, g2, g3, g4, g5, g6, g7, g8, g9⟩ := h
  refine ⟨g1, by rw [hf 3 (by omega) (by omega) (by omega) (by omega) (by omega)]; exact g2, fun k hk => ?_, fun k l' hk hl' => ?_, fun k hk => ?_, g6, by rw [hf 3 (by omega) (by omega) (by omega) (by omega) (by omega)]; exact g7, fun i hi => ?_, fun i hi => ?_⟩
  · show μ' 5 k = _
    dsimp only
    rw [h2]
    by_cases hkm : k = m
    · have e : sMen q.2.1 m (some l) k = some l := if_pos hkm
      simp only [e]
      rw [if_pos hkm]
      rfl
    · have e : sMen q.2.1 m (some l) k = q.2.1 k := if_neg hkm
      simp only [e]
      rw [if_neg hkm]
      exact g3 k hk
  · dsimp only at hl'
    by_cases hkm : k = m
    · have e : sMen q.2.1 m (some l) k = some l := if_pos hkm
      rw [e] at hl'
      cases hl'
      subst hkm
      exact ⟨h1, hl⟩
    · have e : sMen q.2.1 m (some l) k = q.2.1 k := if_neg hkm
      rw [e] at hl'
      obtain ⟨a, b⟩ := g4 k l' hk hl'
      exact ⟨a.fr (hf _ (by omega) (by omega) (by omega) (by omega) (by omega)) (hf _ (by omega) (by omega) (by omega) (by omega) (by omega)), b⟩
  · by_cases hkm : k = m
    · subst hkm
      exact ⟨l, h1⟩
    · obtain ⟨l', a⟩ := g5 k hk
      exact ⟨l', a.fr (hf _ (by omega) (by omega) (by omega) (by omega) (by omega)) (hf _ (by omega) (by omega) (by omega) (by omega) (by omega))⟩
  · obtain ⟨a, b⟩ := g8 i hi
    dsimp only at hi
    exact ⟨a.fr (hf _ (by omega) (by omega) (by omega) (by omega) (by omega)) (hf _ (by omega) (by omega) (by omega) (by omega) (by omega)), b⟩
  · obtain ⟨l', a⟩ := g9 i hi
    exact ⟨l', a.fr (hf _ (by omega) (by omega) (by omega) (by omega) (by omega)) (hf _ (by omega) (by omega) (by omega) (by omega) (by omega))⟩
def aTeach (σ : Sg) (z : Int) : Int := if 0 ≤ z ∧ z < 6 then aRd σ.1.1 σ.2.1 else -1
def sTeach (σ : Sg) (z : Int) : Sg := if 0 ≤ z ∧ z < 6 then (if 0 ≤ aRd σ.1.1 σ.2.1 then ((σ.1.1, sMen σ.1.2.1 z.toNat (some (sgn σ.1.1 σ.2.1)), σ.1.2.2), [], σ.2.2) else σ) else σ
theorem aRd_rg {L : Int} {l : List Int} : -5 ≤ aRd L l ∧ aRd L l ≤ l.length := by
  unfold aRd
  (repeat' split) <;> omega
theorem aRd_0 {L : Int} {l : List Int} (h : 0 ≤ aRd L l) : fltF L l 0 0 = -6 ∧ ¬ (-1) ∈ sgn L l ∧ aRd L l = l.length := by
  unfold aRd at h ⊢
  by_cases c : fltF L l 0 0 = -6
  · rw [if_pos c] at h ⊢
    by_cases c2 : (-1) ∈ sgn L l
    · rw [if_pos c2] at h
      omega
    · rw [if_neg c2]
      exact ⟨c, c2, rfl⟩
  · rw [if_neg c] at h
    omega
theorem CS.net {μ μ' : Mem} {σ : Sg} (h : CS μ σ) (hf : ∀ c, ¬ c = 37 → ¬ c = 38 → μ' c = μ c) : CS μ' σ := h.fr (fun c hc => hf c (by omega) (by omega))
theorem C_teach {X : Env0} {d : Nat} {μ : Mem} {σ : Sg} {z : Int} (h : CS μ σ) (h1 : -2147483648 ≤ z) (h2 : z < 2147483648) : Wp X (d + 3) 49 0 [.ref 0, .int (iI z), .retAddr 0] [] μ (CPost μ (sTeach σ z) (aTeach σ z)) := by
  have hl40 := h.2.2.1.1
  have hrg := aRd_rg (L := σ.1.1) (l := σ.2.1)
  unfold aTeach sTeach
  by_cases c : 0 ≤ z ∧ z < 6
  · rw [if_pos c, if_pos c]
    simp (disch := first | assumption | with_reducible exact kd_0 | with_reducible exact kd_1 | with_reducible exact kd_3 | with_reducible exact kd_25 | with_reducible exact kd_26 | with_reducible exact kd_32 | with_reducible exact kd_30 | with_reducible exact kd_37 | with_reducible exact kd_39 | with_reducible exact kd_41 | with_reducible exact kd_2 | with_reducible exact kd_4 | with_reducible exact kd_5 | with_reducible exact kd_6 | with_reducible exact kd_27 | with_reducible exact kd_28 | with_reducible exact kd_29 | with_reducible exact kd_31 | with_reducible exact kd_33 | with_reducible exact kd_34 | with_reducible exact kd_35 | with_reducible exact kd_36 | with_reducible exact kd_38 | with_reducible exact kd_40 | with_reducible exact kd_86 | with_reducible exact kd_87 | with_reducible exact kd_88 | with_reducible exact kd_89 | with_reducible exact kd_90 | with_reducible exact kd_91 | with_reducible exact kd_92 | with_reducible exact kd_93 | with_reducible exact kd_94 | with_reducible exact kd_95 | with_reducible exact kd_96 | with_reducible exact kd_97 | with_reducible exact kd_98 | with_reducible exact kd_99 | with_reducible exact kd_100 | with_reducible exact kd_101 | with_reducible exact kd_102 | with_reducible exact kq_4 | with_reducible exact kq_6 | with_reducible exact kq_25 | omega) only [wX4_teach_0, wX4_teach_1, wX4_teach_4, wX4_teach_5, wX4_teach_7, wX4_teach_10, wX4_teach_11, wX4_teach_12, wX4_teach_13, wX4_teach_16, wX4_teach_17, wX4_teach_18, wX4_teach_21, wX4_teach_22, wX4_teach_25, wX4_teach_26, wX4_teach_27, wX4_teach_30, wX4_teach_33, wX4_teach_34, wX4_teach_37, wX4_teach_40, wX4_teach_41, psh_some, psh_none, rf_0_0, rf_0_1, rf_0_2, rf_0_3, rf_0_4, rf_0_5, rf_0_6, rf_0_7, rf_1_0, ln_2, rf_3_1, rf_3_2, rf_3_3, ln_4, ln_5, ln_6, rf_25_0, rf_25_1, ln_25, rf_26_0, rf_26_1, rf_26_2, rf_26_3, ln_27, ln_28, ln_29, rf_30_0, ln_31, rf_32_0, rf_32_1, rf_32_2, rf_32_3, ln_33, ln_34, ln_35, ln_36, rf_37_0, ln_38, rf_39_0, ln_40, ln_41, i0, iI_lt, iI_le, iI_eq, iI_in, iI_nat, iI_add, iI_sub]
    rw [if_neg (by omega), if_pos (by omega)]
    refine (readPad_spec h.1.2.1 h.1.1 h.2.1 h.2.2.1).mono ?_
    rintro v μ1 ⟨rfl, a2, a3⟩
    have h' := h.net a3
    by_cases c0 : 0 ≤ aRd σ.1.1 σ.2.1
    · obtain ⟨b1, b2, b3⟩ := aRd_0 c0
      rw [if_pos c0]
      have hR := a2 b1
      have hOK := sgn_OK h.1.1 b1 b2
      have hsl : (sgn σ.1.1 σ.2.1).length = σ.2.1.length := List.length_map _
      have e1 := rwMan (Or.inl rfl : isCo 3) z.toNat (by omega)
      have e2 : rf 4 z.toNat = 7 + 2 * z.toNat := rfMan (Or.inl rfl : isCo 3) z.toNat (by omega)
      have e3 : isRw (7 + 2 * z.toNat) := e1.1
      have e4 : ln (7 + 2 * z.toNat + 1) = 6 := e1.2
      have hOK1 := hOK.1
      simp (disch := first | assumption | with_reducible exact kd_0 | with_reducible exact kd_1 | with_reducible exact kd_3 | with_reducible exact kd_25 | with_reducible exact kd_26 | with_reducible exact kd_32 | with_reducible exact kd_30 | with_reducible exact kd_37 | with_reducible exact kd_39 | with_reducible exact kd_41 | with_reducible exact kd_2 | with_reducible exact kd_4 | with_reducible exact kd_5 | with_reducible exact kd_6 | with_reducible exact kd_27 | with_reducible exact kd_28 | with_reducible exact kd_29 | with_reducible exact kd_31 | with_reducible exact kd_33 | with_reducible exact kd_34 | with_reducible exact kd_35 | with_reducible exact kd_36 | with_reducible exact kd_38 | with_reducible exact kd_40 | with_reducible exact kd_86 | with_reducible exact kd_87 | with_reducible exact kd_88 | with_reducible exact kd_89 | with_reducible exact kd_90 | with_reducible exact kd_91 | with_reducible exact kd_92 | with_reducible exact kd_93 | with_reducible exact kd_94 | with_reducible exact kd_95 | with_reducible exact kd_96 | with_reducible exact kd_97 | with_reducible exact kd_98 | with_reducible exact kd_99 | with_reducible exact kd_100 | with_reducible exact kd_101 | with_reducible exact kd_102 | with_reducible exact kq_4 | with_reducible exact kq_6 | with_reducible exact kq_25 | omega) only [wX4_teach_0, wX4_teach_1, wX4_teach_4, wX4_teach_5, wX4_teach_7, wX4_teach_10, wX4_teach_11, wX4_teach_12, wX4_teach_13, wX4_teach_16, wX4_teach_17, wX4_teach_18, wX4_teach_21, wX4_teach_22, wX4_teach_25, wX4_teach_26, wX4_teach_27, wX4_teach_30, wX4_teach_33, wX4_teach_34, wX4_teach_37, wX4_teach_40, wX4_teach_41, wX0_giveRow_0, wX0_giveRow_1, wX0_giveRow_4, wX0_giveRow_5, wX0_giveRow_7, wX0_giveRow_10, wX0_giveRow_10n, wX0_giveRow_11, wX0_giveRow_12, wX0_giveRow_15, wX0_giveRow_16, wX0_giveRow_17, wX0_giveRow_20, wX0_giveRow_21, wX0_giveRow_24, wX0_giveRow_25, wX0_giveRow_26, wX0_giveRow_27, psh_some, psh_none, rf_0_0, rf_0_1, rf_0_2, rf_0_3, rf_0_4, rf_0_5, rf_0_6, rf_0_7, rf_1_0, ln_2, rf_3_1, rf_3_2, rf_3_3, ln_4, ln_5, ln_6, rf_25_0, rf_25_1, ln_25, rf_26_0, rf_26_1, rf_26_2, rf_26_3, ln_27, ln_28, ln_29, rf_30_0, ln_31, rf_32_0, rf_32_1, rf_32_2, rf_32_3, ln_33, ln_34, ln_35, ln_36, rf_37_0, ln_38, rf_39_0, ln_40, ln_41, i0, iI_lt, iI_le, iI_eq, iI_in, iI_nat, iI_add, iI_sub, e2]
      rw [if_neg (by omega), if_neg (by omega), if_neg (by omega)]
      refine ⟨by omega, (copy_spec isRw_37 e3 (rwAp_of (by omega)) (by omega) hR).mono ?_⟩
      rintro v μ2 ⟨rfl, f2, f3⟩
      simp (disch := first | assumption | with_reducible exact kd_0 | with_reducible exact kd_1 | with_reducible exact kd_3 | with_reducible exact kd_25 | with_reducible exact kd_26 | with_reducible exact kd_32 | with_reducible exact kd_30 | with_reducible exact kd_37 | with_reducible exact kd_39 | with_reducible exact kd_41 | with_reducible exact kd_2 | with_reducible exact kd_4 | with_reducible exact kd_5 | with_reducible exact kd_6 | with_reducible exact kd_27 | with_reducible exact kd_28 | with_reducible exact kd_29 | with_reducible exact kd_31 | with_reducible exact kd_33 | with_reducible exact kd_34 | with_reducible exact kd_35 | with_reducible exact kd_36 | with_reducible exact kd_38 | with_reducible exact kd_40 | with_reducible exact kd_86 | with_reducible exact kd_87 | with_reducible exact kd_88 | with_reducible exact kd_89 | with_reducible exact kd_90 | with_reducible exact kd_91 | with_reducible exact kd_92 | with_reducible exact kd_93 | with_reducible exact kd_94 | with_reducible exact kd_95 | with_reducible exact kd_96 | with_reducible exact kd_97 | with_reducible exact kd_98 | with_reducible exact kd_99 | with_reducible exact kd_100 | with_reducible exact kd_101 | with_reducible exact kd_102 | with_reducible exact kq_4 | with_reducible exact kq_6 | with_reducible exact kq_25 | omega) only [wX4_teach_0, wX4_teach_1, wX4_teach_4, wX4_teach_5, wX4_teach_7, wX4_teach_10, wX4_teach_11, wX4_teach_12, wX4_teach_13, wX4_teach_16, wX4_teach_17, wX4_teach_18, wX4_teach_21, wX4_teach_22, wX4_teach_25, wX4_teach_26, wX4_teach_27, wX4_teach_30, wX4_teach_33, wX4_teach_34, wX4_teach_37, wX4_teach_40, wX4_teach_41, wX0_giveRow_0, wX0_giveRow_1, wX0_giveRow_4, wX0_giveRow_5, wX0_giveRow_7, wX0_giveRow_10, wX0_giveRow_10n, wX0_giveRow_11, wX0_giveRow_12, wX0_giveRow_15, wX0_giveRow_16, wX0_giveRow_17, wX0_giveRow_20, wX0_giveRow_21, wX0_giveRow_24, wX0_giveRow_25, wX0_giveRow_26, wX0_giveRow_27, psh_some, psh_none, rf_0_0, rf_0_1, rf_0_2, rf_0_3, rf_0_4, rf_0_5, rf_0_6, rf_0_7, rf_1_0, ln_2, rf_3_1, rf_3_2, rf_3_3, ln_4, ln_5, ln_6, rf_25_0, rf_25_1, ln_25, rf_26_0, rf_26_1, rf_26_2, rf_26_3, ln_27, ln_28, ln_29, rf_30_0, ln_31, rf_32_0, rf_32_1, rf_32_2, rf_32_3, ln_33, ln_34, ln_35, ln_36, rf_37_0, ln_38, rf_39_0, ln_40, ln_41, i0, iI_lt, iI_le, iI_eq, iI_in, iI_nat, iI_add, iI_sub, empty_spec isRw_1]
      refine ⟨by trivial, by omega, by trivial, ?_, fun c hc => ?_⟩
      · refine ⟨?_, Rw.empty, ⟨Nat.zero_le _, fun x hx => by cases hx⟩, fun n hn => (h.2.2.2 n hn).fr (fun c h1 h2 => ?_)⟩
        · refine h'.1.teach (m := z.toNat) (by omega) hOK (f2.fr ?_ ?_) (fun k => ?_) (fun c h1 h2 h3 h4 h5 => ?_)
          · rw [u2_cell (by omega), u2_cell (by omega)]
          · rw [u2_cell (by omega), u2_cell (by omega)]
          · rw [u2_c (by omega)]
            by_cases hk : k = z.toNat
            · rw [if_pos hk, hk, u2_s]
            · rw [if_neg hk, u2_n hk, f3 5 (by omega) (by omega)]
          · rw [u2_cell (by omega), u2_cell (by omega)]
            exact f3 c h4 h5
        · rw [u2_cell (by omega), u2_cell (by omega), f3 c (by omega) (by omega), a3 c (by omega) (by omega)]
      · rw [u2_cell (by omega), u2_cell (by omega), f3 c (by omega) (by omega), a3 c (by omega) (by omega)]
    · rw [if_neg c0]
      simp (disch := first | assumption | with_reducible exact kd_0 | with_reducible exact kd_1 | with_reducible exact kd_3 | with_reducible exact kd_25 | with_reducible exact kd_26 | with_reducible exact kd_32 | with_reducible exact kd_30 | with_reducible exact kd_37 | with_reducible exact kd_39 | with_reducible exact kd_41 | with_reducible exact kd_2 | with_reducible exact kd_4 | with_reducible exact kd_5 | with_reducible exact kd_6 | with_reducible exact kd_27 | with_reducible exact kd_28 | with_reducible exact kd_29 | with_reducible exact kd_31 | with_reducible exact kd_33 | with_reducible exact kd_34 | with_reducible exact kd_35 | with_reducible exact kd_36 | with_reducible exact kd_38 | with_reducible exact kd_40 | with_reducible exact kd_86 | with_reducible exact kd_87 | with_reducible exact kd_88 | with_reducible exact kd_89 | with_reducible exact kd_90 | with_reducible exact kd_91 | with_reducible exact kd_92 | with_reducible exact kd_93 | with_reducible exact kd_94 | with_reducible exact kd_95 | with_reducible exact kd_96 | with_reducible exact kd_97 | with_reducible exact kd_98 | with_reducible exact kd_99 | with_reducible exact kd_100 | with_reducible exact kd_101 | with_reducible exact kd_102 | with_reducible exact kq_4 | with_reducible exact kq_6 | with_reducible exact kq_25 | omega) only [wX4_teach_0, wX4_teach_1, wX4_teach_4, wX4_teach_5, wX4_teach_7, wX4_teach_10, wX4_teach_11, wX4_teach_12, wX4_teach_13, wX4_teach_16, wX4_teach_17, wX4_teach_18, wX4_teach_21, wX4_teach_22, wX4_teach_25, wX4_teach_26, wX4_teach_27, wX4_teach_30, wX4_teach_33, wX4_teach_34, wX4_teach_37, wX4_teach_40, wX4_teach_41, wX0_giveRow_0, wX0_giveRow_1, wX0_giveRow_4, wX0_giveRow_5, wX0_giveRow_7, wX0_giveRow_10, wX0_giveRow_10n, wX0_giveRow_11, wX0_giveRow_12, wX0_giveRow_15, wX0_giveRow_16, wX0_giveRow_17, wX0_giveRow_20, wX0_giveRow_21, wX0_giveRow_24, wX0_giveRow_25, wX0_giveRow_26, wX0_giveRow_27, psh_some, psh_none, rf_0_0, rf_0_1, rf_0_2, rf_0_3, rf_0_4, rf_0_5, rf_0_6, rf_0_7, rf_1_0, ln_2, rf_3_1, rf_3_2, rf_3_3, ln_4, ln_5, ln_6, rf_25_0, rf_25_1, ln_25, rf_26_0, rf_26_1, rf_26_2, rf_26_3, ln_27, ln_28, ln_29, rf_30_0, ln_31, rf_32_0, rf_32_1, rf_32_2, rf_32_3, ln_33, ln_34, ln_35, ln_36, rf_37_0, ln_38, rf_39_0, ln_40, ln_41, i0, iI_lt, iI_le, iI_eq, iI_in, iI_nat, iI_add, iI_sub]
      rw [if_pos (by omega)]
      exact ⟨rfl, h', fun c hc => a3 c (by omega) (by omega)⟩
  · rw [if_neg c, if_neg c]
    simp (disch := first | assumption | with_reducible exact kd_0 | with_reducible exact kd_1 | with_reducible exact kd_3 | with_reducible exact kd_25 | with_reducible exact kd_26 | with_reducible exact kd_32 | with_reducible exact kd_30 | with_reducible exact kd_37 | with_reducible exact kd_39 | with_reducible exact kd_41 | with_reducible exact kd_2 | with_reducible exact kd_4 | with_reducible exact kd_5 | with_reducible exact kd_6 | with_reducible exact kd_27 | with_reducible exact kd_28 | with_reducible exact kd_29 | with_reducible exact kd_31 | with_reducible exact kd_33 | with_reducible exact kd_34 | with_reducible exact kd_35 | with_reducible exact kd_36 | with_reducible exact kd_38 | with_reducible exact kd_40 | with_reducible exact kd_86 | with_reducible exact kd_87 | with_reducible exact kd_88 | with_reducible exact kd_89 | with_reducible exact kd_90 | with_reducible exact kd_91 | with_reducible exact kd_92 | with_reducible exact kd_93 | with_reducible exact kd_94 | with_reducible exact kd_95 | with_reducible exact kd_96 | with_reducible exact kd_97 | with_reducible exact kd_98 | with_reducible exact kd_99 | with_reducible exact kd_100 | with_reducible exact kd_101 | with_reducible exact kd_102 | with_reducible exact kq_4 | with_reducible exact kq_6 | with_reducible exact kq_25 | omega) only [wX4_teach_0, wX4_teach_1, wX4_teach_4, wX4_teach_5, wX4_teach_7, wX4_teach_10, wX4_teach_11, wX4_teach_16, wX4_teach_17, wX4_teach_18, wX4_teach_21, wX4_teach_22, wX4_teach_25, wX4_teach_26, wX4_teach_27, wX4_teach_30, wX4_teach_33, wX4_teach_34, wX4_teach_37, wX4_teach_40, wX4_teach_41, psh_some, psh_none, rf_0_0, rf_0_1, rf_0_2, rf_0_3, rf_0_4, rf_0_5, rf_0_6, rf_0_7, rf_1_0, ln_2, rf_3_1, rf_3_2, rf_3_3, ln_4, ln_5, ln_6, rf_25_0, rf_25_1, ln_25, rf_26_0, rf_26_1, rf_26_2, rf_26_3, ln_27, ln_28, ln_29, rf_30_0, ln_31, rf_32_0, rf_32_1, rf_32_2, rf_32_3, ln_33, ln_34, ln_35, ln_36, rf_37_0, ln_38, rf_39_0, ln_40, ln_41, i0, iI_lt, iI_le, iI_eq, iI_in, iI_nat, iI_add, iI_sub]
    have k : CPost μ σ (-1) (some (.int (iI (-1)))) μ := ⟨rfl, h, keepX.rf⟩
    (repeat' split) <;> first | exact k | (exfalso; omega)
theorem CoP.scrap {μ μ' : Mem} {q : Co} {l : List Int} (h : CoP μ 3 q) (hm : q.2.2.length < 3) (hl : rowOK q.1 l) (hl0 : 0 < l.length) (h1 : Rw μ' (19 + 2 * q.2.2.length) l) (h2 : ∀ s, μ' 3 s = if s = 4 then iI (q.2.2.length + 1) else μ 3 s) (hf : ∀ c, 4 ≤ c → c ≤ 24 → ¬ c = 19 + 2 * q.2.2.length → ¬ c = 19 + 2 * q.2.2.length + 1 → μ' c = μ c) : CoP μ' 3 (q.1, q.2.1, q.2.2 ++ [l]) := by
  obtain ⟨g1, g2, g3, g4, g5, g6, g7, g8, g9⟩ := h
  refine ⟨g1, by rw [h2, if_neg (by omega)]; exact g2, fun k hk => by rw [hf _ (by omega) (by omega) (by omega) (by omega)]; exact g3 k hk, fun k l' hk hl' => ?_, fun k hk => ?_, ?_, ?_, fun i hi => ?_, fun i hi => ?_⟩
  · obtain ⟨a, b⟩ := g4 k l' hk hl'
    exact ⟨a.fr (hf _ (by omega) (by omega) (by omega) (by omega)) (hf _ (by omega) (by omega) (by omega) (by omega)), b⟩
  · obtain ⟨l', a⟩ := g5 k hk
    exact ⟨l', a.fr (hf _ (by omega) (by omega) (by omega) (by omega)) (hf _ (by omega) (by omega) (by omega) (by omega))⟩
  · dsimp only
    rw [List.length_append, List.length_singleton]
    omega
  · rw [h2, if_pos rfl]
    dsimp only
    rw [List.length_append, List.length_singleton, Int.natCast_add]
    rfl
  · dsimp only at hi ⊢
    rw [List.length_append, List.length_singleton] at hi
    rw [List.getD_eq_getElem?_getD]
    by_cases hk : i = q.2.2.length
    · subst hk
      rw [List.getElem?_append_right (Nat.le_refl _), Nat.sub_self]
      exact ⟨h1, hl, hl0⟩
    · rw [List.getElem?_append_left (by omega), ← List.getD_eq_getElem?_getD]
      obtain ⟨a, b⟩ := g8 i (by omega)
      exact ⟨a.fr (hf _ (by omega) (by omega) (by omega) (by omega)) (hf _ (by omega) (by omega) (by omega) (by omega)), b⟩
  · by_cases hk : i = q.2.2.length
    · subst hk
      exact ⟨l, h1⟩
    · obtain ⟨l', a⟩ := g9 i hi
      exact ⟨l', a.fr (hf _ (by omega) (by omega) (by omega) (by omega)) (hf _ (by omega) (by omega) (by omega) (by omega))⟩
def aScrap (σ : Sg) : Int := if aRd σ.1.1 σ.2.1 = 0 then -5 else if aRd σ.1.1 σ.2.1 < 0 then aRd σ.1.1 σ.2.1 else if σ.1.2.2.length = 3 then -4 else σ.1.2.2.length + 1
def sScrap (σ : Sg) : Sg := if aRd σ.1.1 σ.2.1 = 0 then σ else if aRd σ.1.1 σ.2.1 < 0 then σ else if σ.1.2.2.length = 3 then σ else ((σ.1.1, σ.1.2.1, σ.1.2.2 ++ [sgn σ.1.1 σ.2.1]), [], σ.2.2)
theorem C_scrap {X : Env0} {d : Nat} {μ : Mem} {σ : Sg} (h : CS μ σ) : Wp X (d + 3) 63 0 [.ref 0, .retAddr 0] [] μ (CPost μ (sScrap σ) (aScrap σ)) := by
  have hl40 := h.2.2.1.1
  have hrg := aRd_rg (L := σ.1.1) (l := σ.2.1)
  unfold aScrap sScrap
  simp (disch := first | assumption | with_reducible exact kd_0 | with_reducible exact kd_1 | with_reducible exact kd_3 | with_reducible exact kd_25 | with_reducible exact kd_26 | with_reducible exact kd_32 | with_reducible exact kd_30 | with_reducible exact kd_37 | with_reducible exact kd_39 | with_reducible exact kd_41 | with_reducible exact kd_2 | with_reducible exact kd_4 | with_reducible exact kd_5 | with_reducible exact kd_6 | with_reducible exact kd_27 | with_reducible exact kd_28 | with_reducible exact kd_29 | with_reducible exact kd_31 | with_reducible exact kd_33 | with_reducible exact kd_34 | with_reducible exact kd_35 | with_reducible exact kd_36 | with_reducible exact kd_38 | with_reducible exact kd_40 | with_reducible exact kd_86 | with_reducible exact kd_87 | with_reducible exact kd_88 | with_reducible exact kd_89 | with_reducible exact kd_90 | with_reducible exact kd_91 | with_reducible exact kd_92 | with_reducible exact kd_93 | with_reducible exact kd_94 | with_reducible exact kd_95 | with_reducible exact kd_96 | with_reducible exact kd_97 | with_reducible exact kd_98 | with_reducible exact kd_99 | with_reducible exact kd_100 | with_reducible exact kd_101 | with_reducible exact kd_102 | with_reducible exact kq_4 | with_reducible exact kq_6 | with_reducible exact kq_25 | omega) only [wX4_scrap_0, wX4_scrap_1, wX4_scrap_4, wX4_scrap_5, wX4_scrap_6, wX4_scrap_9, wX4_scrap_11, wX4_scrap_12, wX4_scrap_13, wX4_scrap_16, wX4_scrap_17, wX4_scrap_18, wX4_scrap_19, wX4_scrap_22, wX4_scrap_23, wX4_scrap_26, wX4_scrap_29, wX4_scrap_32, wX4_scrap_34, wX4_scrap_35, wX4_scrap_36, wX4_scrap_39, wX4_scrap_42, wX4_scrap_43, wX4_scrap_46, wX4_scrap_49, psh_some, psh_none, rf_0_0, rf_0_1, rf_0_2, rf_0_3, rf_0_4, rf_0_5, rf_0_6, rf_0_7, rf_1_0, ln_2, rf_3_1, rf_3_2, rf_3_3, ln_4, ln_5, ln_6, rf_25_0, rf_25_1, ln_25, rf_26_0, rf_26_1, rf_26_2, rf_26_3, ln_27, ln_28, ln_29, rf_30_0, ln_31, rf_32_0, rf_32_1, rf_32_2, rf_32_3, ln_33, ln_34, ln_35, ln_36, rf_37_0, ln_38, rf_39_0, ln_40, ln_41, i0, iI_lt, iI_le, iI_eq, iI_in, iI_nat, iI_add, iI_sub]
  refine (readPad_spec h.1.2.1 h.1.1 h.2.1 h.2.2.1).mono ?_
  rintro v μ1 ⟨rfl, a2, a3⟩
  have h' := h.net a3
  have k : ∀ a, CPost μ σ a (some (.int (iI a))) μ1 := fun a => ⟨rfl, h', fun c hc => a3 c (by omega) (by omega)⟩
  simp (disch := first | assumption | with_reducible exact kd_0 | with_reducible exact kd_1 | with_reducible exact kd_3 | with_reducible exact kd_25 | with_reducible exact kd_26 | with_reducible exact kd_32 | with_reducible exact kd_30 | with_reducible exact kd_37 | with_reducible exact kd_39 | with_reducible exact kd_41 | with_reducible exact kd_2 | with_reducible exact kd_4 | with_reducible exact kd_5 | with_reducible exact kd_6 | with_reducible exact kd_27 | with_reducible exact kd_28 | with_reducible exact kd_29 | with_reducible exact kd_31 | with_reducible exact kd_33 | with_reducible exact kd_34 | with_reducible exact kd_35 | with_reducible exact kd_36 | with_reducible exact kd_38 | with_reducible exact kd_40 | with_reducible exact kd_86 | with_reducible exact kd_87 | with_reducible exact kd_88 | with_reducible exact kd_89 | with_reducible exact kd_90 | with_reducible exact kd_91 | with_reducible exact kd_92 | with_reducible exact kd_93 | with_reducible exact kd_94 | with_reducible exact kd_95 | with_reducible exact kd_96 | with_reducible exact kd_97 | with_reducible exact kd_98 | with_reducible exact kd_99 | with_reducible exact kd_100 | with_reducible exact kd_101 | with_reducible exact kd_102 | with_reducible exact kq_4 | with_reducible exact kq_6 | with_reducible exact kq_25 | omega) only [wX4_scrap_0, wX4_scrap_1, wX4_scrap_4, wX4_scrap_5, wX4_scrap_6, wX4_scrap_9, wX4_scrap_11, wX4_scrap_12, wX4_scrap_13, wX4_scrap_16, wX4_scrap_17, wX4_scrap_18, wX4_scrap_19, wX4_scrap_22, wX4_scrap_23, wX4_scrap_26, wX4_scrap_29, wX4_scrap_32, wX4_scrap_34, wX4_scrap_35, wX4_scrap_36, wX4_scrap_39, wX4_scrap_42, wX4_scrap_43, wX4_scrap_46, wX4_scrap_49, psh_some, psh_none, rf_0_0, rf_0_1, rf_0_2, rf_0_3, rf_0_4, rf_0_5, rf_0_6, rf_0_7, rf_1_0, ln_2, rf_3_1, rf_3_2, rf_3_3, ln_4, ln_5, ln_6, rf_25_0, rf_25_1, ln_25, rf_26_0, rf_26_1, rf_26_2, rf_26_3, ln_27, ln_28, ln_29, rf_30_0, ln_31, rf_32_0, rf_32_1, rf_32_2, rf_32_3, ln_33, ln_34, ln_35, ln_36, rf_37_0, ln_38, rf_39_0, ln_40, ln_41, i0, iI_lt, iI_le, iI_eq, iI_in, iI_nat, iI_add, iI_sub]
  by_cases c0 : aRd σ.1.1 σ.2.1 = 0
  · rw [if_pos c0, if_pos c0, if_pos c0]
    exact k _
  · rw [if_neg c0, if_neg c0, if_neg c0]
    by_cases c1 : aRd σ.1.1 σ.2.1 < 0
    · rw [if_pos c1, if_pos c1, if_neg (by omega)]
      exact k _
    · rw [if_neg c1, if_neg c1, if_pos (by omega)]
      obtain ⟨b1, b2, b3⟩ := aRd_0 (L := σ.1.1) (l := σ.2.1) (by omega)
      have e1 : μ1 3 4 = iI σ.1.2.2.length := h'.1.2.2.2.2.2.2.1
      have e0 := h.1.2.2.2.2.2.1
      by_cases c2 : σ.1.2.2.length = 3
      · rw [if_pos c2, if_pos c2]
        simp (disch := first | assumption | with_reducible exact kd_0 | with_reducible exact kd_1 | with_reducible exact kd_3 | with_reducible exact kd_25 | with_reducible exact kd_26 | with_reducible exact kd_32 | with_reducible exact kd_30 | with_reducible exact kd_37 | with_reducible exact kd_39 | with_reducible exact kd_41 | with_reducible exact kd_2 | with_reducible exact kd_4 | with_reducible exact kd_5 | with_reducible exact kd_6 | with_reducible exact kd_27 | with_reducible exact kd_28 | with_reducible exact kd_29 | with_reducible exact kd_31 | with_reducible exact kd_33 | with_reducible exact kd_34 | with_reducible exact kd_35 | with_reducible exact kd_36 | with_reducible exact kd_38 | with_reducible exact kd_40 | with_reducible exact kd_86 | with_reducible exact kd_87 | with_reducible exact kd_88 | with_reducible exact kd_89 | with_reducible exact kd_90 | with_reducible exact kd_91 | with_reducible exact kd_92 | with_reducible exact kd_93 | with_reducible exact kd_94 | with_reducible exact kd_95 | with_reducible exact kd_96 | with_reducible exact kd_97 | with_reducible exact kd_98 | with_reducible exact kd_99 | with_reducible exact kd_100 | with_reducible exact kd_101 | with_reducible exact kd_102 | with_reducible exact kq_4 | with_reducible exact kq_6 | with_reducible exact kq_25 | omega) only [wX4_scrap_0, wX4_scrap_1, wX4_scrap_4, wX4_scrap_5, wX4_scrap_6, wX4_scrap_9, wX4_scrap_11, wX4_scrap_12, wX4_scrap_13, wX4_scrap_16, wX4_scrap_17, wX4_scrap_18, wX4_scrap_19, wX4_scrap_22, wX4_scrap_23, wX4_scrap_26, wX4_scrap_29, wX4_scrap_32, wX4_scrap_34, wX4_scrap_35, wX4_scrap_36, wX4_scrap_39, wX4_scrap_42, wX4_scrap_43, wX4_scrap_46, wX4_scrap_49, wX0_addScrap_0, wX0_addScrap_1, wX0_addScrap_4, wX0_addScrap_7, wX0_addScrap_8, wX0_addScrap_11, wX0_addScrap_12, wX0_addScrap_15, wX0_addScrap_16_0, wX0_addScrap_16_1, wX0_addScrap_17, wX0_addScrap_17n, wX0_addScrap_18, wX0_addScrap_19, wX0_addScrap_22, wX0_addScrap_23, wX0_addScrap_26, wX0_addScrap_27, wX0_addScrap_30, wX0_addScrap_31, wX0_addScrap_31i, wX0_addScrap_32, wX0_addScrap_35, wX0_addScrap_36, wX0_addScrap_37, wX0_addScrap_40, wX0_addScrap_41_0, wX0_addScrap_41_1, psh_some, psh_none, rf_0_0, rf_0_1, rf_0_2, rf_0_3, rf_0_4, rf_0_5, rf_0_6, rf_0_7, rf_1_0, ln_2, rf_3_1, rf_3_2, rf_3_3, ln_4, ln_5, ln_6, rf_25_0, rf_25_1, ln_25, rf_26_0, rf_26_1, rf_26_2, rf_26_3, ln_27, ln_28, ln_29, rf_30_0, ln_31, rf_32_0, rf_32_1, rf_32_2, rf_32_3, ln_33, ln_34, ln_35, ln_36, rf_37_0, ln_38, rf_39_0, ln_40, ln_41, i0, iI_lt, iI_le, iI_eq, iI_in, iI_nat, iI_add, iI_sub, e1]
        rw [if_neg (by omega), if_neg (by omega)]
        (try simp (disch := omega) only [iI_eq])
        exact k _
      · rw [if_neg c2, if_neg c2]
        have hR := a2 b1
        have hOK := sgn_OK h.1.1 b1 b2
        have hOK1 := hOK.1
        have hsl : (sgn σ.1.1 σ.2.1).length = σ.2.1.length := List.length_map _
        have g1 := rwScr (Or.inl rfl : isCo 3) σ.1.2.2.length (by omega)
        have g2 : rf 6 σ.1.2.2.length = 19 + 2 * σ.1.2.2.length := rfScr (Or.inl rfl : isCo 3) σ.1.2.2.length (by omega)
        have g3 : isRw (19 + 2 * σ.1.2.2.length) := g1.1
        have g4 : ln (19 + 2 * σ.1.2.2.length + 1) = 6 := g1.2
        simp (disch := first | assumption | with_reducible exact kd_0 | with_reducible exact kd_1 | with_reducible exact kd_3 | with_reducible exact kd_25 | with_reducible exact kd_26 | with_reducible exact kd_32 | with_reducible exact kd_30 | with_reducible exact kd_37 | with_reducible exact kd_39 | with_reducible exact kd_41 | with_reducible exact kd_2 | with_reducible exact kd_4 | with_reducible exact kd_5 | with_reducible exact kd_6 | with_reducible exact kd_27 | with_reducible exact kd_28 | with_reducible exact kd_29 | with_reducible exact kd_31 | with_reducible exact kd_33 | with_reducible exact kd_34 | with_reducible exact kd_35 | with_reducible exact kd_36 | with_reducible exact kd_38 | with_reducible exact kd_40 | with_reducible exact kd_86 | with_reducible exact kd_87 | with_reducible exact kd_88 | with_reducible exact kd_89 | with_reducible exact kd_90 | with_reducible exact kd_91 | with_reducible exact kd_92 | with_reducible exact kd_93 | with_reducible exact kd_94 | with_reducible exact kd_95 | with_reducible exact kd_96 | with_reducible exact kd_97 | with_reducible exact kd_98 | with_reducible exact kd_99 | with_reducible exact kd_100 | with_reducible exact kd_101 | with_reducible exact kd_102 | with_reducible exact kq_4 | with_reducible exact kq_6 | with_reducible exact kq_25 | omega) only [wX4_scrap_0, wX4_scrap_1, wX4_scrap_4, wX4_scrap_5, wX4_scrap_6, wX4_scrap_9, wX4_scrap_11, wX4_scrap_12, wX4_scrap_13, wX4_scrap_16, wX4_scrap_17, wX4_scrap_18, wX4_scrap_19, wX4_scrap_22, wX4_scrap_23, wX4_scrap_26, wX4_scrap_29, wX4_scrap_32, wX4_scrap_34, wX4_scrap_35, wX4_scrap_36, wX4_scrap_39, wX4_scrap_42, wX4_scrap_43, wX4_scrap_46, wX4_scrap_49, wX0_addScrap_0, wX0_addScrap_1, wX0_addScrap_4, wX0_addScrap_7, wX0_addScrap_8, wX0_addScrap_11, wX0_addScrap_12, wX0_addScrap_15, wX0_addScrap_16_0, wX0_addScrap_16_1, wX0_addScrap_17, wX0_addScrap_17n, wX0_addScrap_18, wX0_addScrap_19, wX0_addScrap_22, wX0_addScrap_23, wX0_addScrap_26, wX0_addScrap_27, wX0_addScrap_30, wX0_addScrap_31, wX0_addScrap_31i, wX0_addScrap_32, wX0_addScrap_35, wX0_addScrap_36, wX0_addScrap_37, wX0_addScrap_40, wX0_addScrap_41_0, wX0_addScrap_41_1, psh_some, psh_none, rf_0_0, rf_0_1, rf_0_2, rf_0_3, rf_0_4, rf_0_5, rf_0_6, rf_0_7, rf_1_0, ln_2, rf_3_1, rf_3_2, rf_3_3, ln_4, ln_5, ln_6, rf_25_0, rf_25_1, ln_25, rf_26_0, rf_26_1, rf_26_2, rf_26_3, ln_27, ln_28, ln_29, rf_30_0, ln_31, rf_32_0, rf_32_1, rf_32_2, rf_32_3, ln_33, ln_34, ln_35, ln_36, rf_37_0, ln_38, rf_39_0, ln_40, ln_41, i0, iI_lt, iI_le, iI_eq, iI_in, iI_nat, iI_add, iI_sub, e1, Int.toNat_natCast, g2]
        rw [if_neg (by omega), if_pos (by omega)]
        refine ⟨by omega, (copy_spec isRw_37 g3 (rwAp_of (by omega)) (by omega) hR).mono ?_⟩
        rintro v μ2 ⟨rfl, f2, f3⟩
        have e2 : μ2 3 4 = iI σ.1.2.2.length := by rw [f3 3 (by omega) (by omega)]; exact e1
        have e3 : u2 (u2 μ2 3 4 (iI (σ.1.2.2.length + 1))) 1 1 (iI 0) 3 4 = iI (σ.1.2.2.length + 1) := by rw [u2_c (by omega), u2_s]
        simp (disch := first | assumption | with_reducible exact kd_0 | with_reducible exact kd_1 | with_reducible exact kd_3 | with_reducible exact kd_25 | with_reducible exact kd_26 | with_reducible exact kd_32 | with_reducible exact kd_30 | with_reducible exact kd_37 | with_reducible exact kd_39 | with_reducible exact kd_41 | with_reducible exact kd_2 | with_reducible exact kd_4 | with_reducible exact kd_5 | with_reducible exact kd_6 | with_reducible exact kd_27 | with_reducible exact kd_28 | with_reducible exact kd_29 | with_reducible exact kd_31 | with_reducible exact kd_33 | with_reducible exact kd_34 | with_reducible exact kd_35 | with_reducible exact kd_36 | with_reducible exact kd_38 | with_reducible exact kd_40 | with_reducible exact kd_86 | with_reducible exact kd_87 | with_reducible exact kd_88 | with_reducible exact kd_89 | with_reducible exact kd_90 | with_reducible exact kd_91 | with_reducible exact kd_92 | with_reducible exact kd_93 | with_reducible exact kd_94 | with_reducible exact kd_95 | with_reducible exact kd_96 | with_reducible exact kd_97 | with_reducible exact kd_98 | with_reducible exact kd_99 | with_reducible exact kd_100 | with_reducible exact kd_101 | with_reducible exact kd_102 | with_reducible exact kq_4 | with_reducible exact kq_6 | with_reducible exact kq_25 | omega) only [wX4_scrap_0, wX4_scrap_1, wX4_scrap_4, wX4_scrap_5, wX4_scrap_6, wX4_scrap_9, wX4_scrap_11, wX4_scrap_12, wX4_scrap_13, wX4_scrap_16, wX4_scrap_17, wX4_scrap_18, wX4_scrap_19, wX4_scrap_22, wX4_scrap_23, wX4_scrap_26, wX4_scrap_29, wX4_scrap_32, wX4_scrap_34, wX4_scrap_35, wX4_scrap_36, wX4_scrap_39, wX4_scrap_42, wX4_scrap_43, wX4_scrap_46, wX4_scrap_49, wX0_addScrap_0, wX0_addScrap_1, wX0_addScrap_4, wX0_addScrap_7, wX0_addScrap_8, wX0_addScrap_11, wX0_addScrap_12, wX0_addScrap_15, wX0_addScrap_16_0, wX0_addScrap_16_1, wX0_addScrap_17, wX0_addScrap_17n, wX0_addScrap_18, wX0_addScrap_19, wX0_addScrap_22, wX0_addScrap_23, wX0_addScrap_26, wX0_addScrap_27, wX0_addScrap_30, wX0_addScrap_31, wX0_addScrap_31i, wX0_addScrap_32, wX0_addScrap_35, wX0_addScrap_36, wX0_addScrap_37, wX0_addScrap_40, wX0_addScrap_41_0, wX0_addScrap_41_1, psh_some, psh_none, rf_0_0, rf_0_1, rf_0_2, rf_0_3, rf_0_4, rf_0_5, rf_0_6, rf_0_7, rf_1_0, ln_2, rf_3_1, rf_3_2, rf_3_3, ln_4, ln_5, ln_6, rf_25_0, rf_25_1, ln_25, rf_26_0, rf_26_1, rf_26_2, rf_26_3, ln_27, ln_28, ln_29, rf_30_0, ln_31, rf_32_0, rf_32_1, rf_32_2, rf_32_3, ln_33, ln_34, ln_35, ln_36, rf_37_0, ln_38, rf_39_0, ln_40, ln_41, i0, iI_lt, iI_le, iI_eq, iI_in, iI_nat, iI_add, iI_sub, e2, empty_spec isRw_1, e3]
        (try simp (disch := omega) only [iI_eq])
        refine ⟨by trivial, ?_, fun c hc => ?_⟩
        · refine ⟨?_, Rw.empty, ⟨Nat.zero_le _, fun x hx => by cases hx⟩, fun n hn => (h.2.2.2 n hn).fr (fun c h1 h2 => ?_)⟩
          · refine h'.1.scrap (by omega) hOK (by omega) (f2.fr ?_ ?_) (fun s => ?_) (fun c h1 h2 h3 h4 => ?_)
            · rw [u2_cell (by omega), u2_cell (by omega)]
            · rw [u2_cell (by omega), u2_cell (by omega)]
            · rw [u2_c (by omega)]
              by_cases hk : s = 4
              · rw [if_pos hk, hk, u2_s]
              · rw [if_neg hk, u2_n hk, f3 3 (by omega) (by omega)]
            · rw [u2_cell (by omega), u2_cell (by omega)]
              exact f3 c h3 h4
          · rw [u2_cell (by omega), u2_cell (by omega), f3 c (by omega) (by omega), a3 c (by omega) (by omega)]
        · rw [u2_cell (by omega), u2_cell (by omega), f3 c (by omega) (by omega), a3 c (by omega) (by omega)]
