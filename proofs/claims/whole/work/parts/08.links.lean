theorem gm_1 {w : Cond} (i : Nat) (h : tables_1_1[i]? = some w) (hg : goodWord w = true) : w ∈ gw := by
  have h1 : w ∈ tables_1_1 := List.mem_of_getElem? h
  refine List.mem_filter.mpr ⟨List.mem_append_right _ ?_, hg⟩
  show w ∈ tables_1
  unfold tables_1
  simp only [List.mem_append]
  simp only [h1, true_or, or_true]
theorem gm_2 {w : Cond} (i : Nat) (h : tables_1_2[i]? = some w) (hg : goodWord w = true) : w ∈ gw := by
  have h1 : w ∈ tables_1_2 := List.mem_of_getElem? h
  refine List.mem_filter.mpr ⟨List.mem_append_right _ ?_, hg⟩
  show w ∈ tables_1
  unfold tables_1
  simp only [List.mem_append]
  simp only [h1, true_or, or_true]
theorem gm_3 {w : Cond} (i : Nat) (h : tables_1_3[i]? = some w) (hg : goodWord w = true) : w ∈ gw := by
  have h1 : w ∈ tables_1_3 := List.mem_of_getElem? h
  refine List.mem_filter.mpr ⟨List.mem_append_right _ ?_, hg⟩
  show w ∈ tables_1
  unfold tables_1
  simp only [List.mem_append]
  simp only [h1, true_or, or_true]
theorem gm_4 {w : Cond} (i : Nat) (h : tables_1_4[i]? = some w) (hg : goodWord w = true) : w ∈ gw := by
  have h1 : w ∈ tables_1_4 := List.mem_of_getElem? h
  refine List.mem_filter.mpr ⟨List.mem_append_right _ ?_, hg⟩
  show w ∈ tables_1
  unfold tables_1
  simp only [List.mem_append]
  simp only [h1, true_or, or_true]
theorem gm_5 {w : Cond} (i : Nat) (h : tables_1_5[i]? = some w) (hg : goodWord w = true) : w ∈ gw := by
  have h1 : w ∈ tables_1_5 := List.mem_of_getElem? h
  refine List.mem_filter.mpr ⟨List.mem_append_right _ ?_, hg⟩
  show w ∈ tables_1
  unfold tables_1
  simp only [List.mem_append]
  simp only [h1, true_or, or_true]
theorem gm_6 {w : Cond} (i : Nat) (h : tables_1_6[i]? = some w) (hg : goodWord w = true) : w ∈ gw := by
  have h1 : w ∈ tables_1_6 := List.mem_of_getElem? h
  refine List.mem_filter.mpr ⟨List.mem_append_right _ ?_, hg⟩
  show w ∈ tables_1
  unfold tables_1
  simp only [List.mem_append]
  simp only [h1, true_or, or_true]
theorem gm_7 {w : Cond} (i : Nat) (h : tables_1_7[i]? = some w) (hg : goodWord w = true) : w ∈ gw := by
  have h1 : w ∈ tables_1_7 := List.mem_of_getElem? h
  refine List.mem_filter.mpr ⟨List.mem_append_right _ ?_, hg⟩
  show w ∈ tables_1
  unfold tables_1
  simp only [List.mem_append]
  simp only [h1, true_or, or_true]
theorem gm_8 {w : Cond} (i : Nat) (h : tables_1_8[i]? = some w) (hg : goodWord w = true) : w ∈ gw := by
  have h1 : w ∈ tables_1_8 := List.mem_of_getElem? h
  refine List.mem_filter.mpr ⟨List.mem_append_right _ ?_, hg⟩
  show w ∈ tables_1
  unfold tables_1
  simp only [List.mem_append]
  simp only [h1, true_or, or_true]
def IsRoom (r : Nat) : Prop := kd r = .inl (6, [none, some (r + 1), some (r + 2), some (r + 3), some (r + 4)]) ∧ kd (r + 1) = .inr (0, some 18) ∧ kd (r + 2) = .inr (0, some 6) ∧ kd (r + 3) = .inr (0, some 6) ∧ kd (r + 4) = .inr (0, some 3) ∧ r + 4 < 110
theorem rb0 {r : Nat} (H : IsRoom r) {Z : Prop} : r < 110 ∨ Z := Or.inl (by have := H.2.2.2.2.2; omega)
theorem rb1 {r : Nat} (H : IsRoom r) {Z : Prop} : r + 1 < 110 ∨ Z := Or.inl (by have := H.2.2.2.2.2; omega)
theorem rb2 {r : Nat} (H : IsRoom r) {Z : Prop} : r + 2 < 110 ∨ Z := Or.inl (by have := H.2.2.2.2.2; omega)
theorem rb3 {r : Nat} (H : IsRoom r) {Z : Prop} : r + 3 < 110 ∨ Z := Or.inl (by have := H.2.2.2.2.2; omega)
theorem rb4 {r : Nat} (H : IsRoom r) {Z : Prop} : r + 4 < 110 ∨ Z := Or.inl (by have := H.2.2.2.2.2; omega)
def IsHouse (o : Nat) : Prop := kd o = .inl (1, [some (o + 1), some 26, some (o + 6), none, none, some (o + 7), none]) ∧ IsRoom (o + 1) ∧ kd (o + 6) = .inr (4, some 6) ∧ kd (o + 7) = .inr (0, some 18) ∧ o + 7 < 110
theorem hb0 {r : Nat} (H : IsHouse r) {Z : Prop} : r < 110 ∨ Z := Or.inl (by have := H.2.2.2.2; omega)
theorem hb6 {r : Nat} (H : IsHouse r) {Z : Prop} : r + 6 < 110 ∨ Z := Or.inl (by have := H.2.2.2.2; omega)
theorem hb7 {r : Nat} (H : IsHouse r) {Z : Prop} : r + 7 < 110 ∨ Z := Or.inl (by have := H.2.2.2.2; omega)
def IsPast (q : Nat) : Prop := kd q = .inl (4, [some (q + 1), none, none]) ∧ kd (q + 1) = .inr (0, some 416) ∧ q + 1 < 110
theorem pb0 {r : Nat} (H : IsPast r) {Z : Prop} : r < 110 ∨ Z := Or.inl (by have := H.2.2; omega)
theorem pb1 {r : Nat} (H : IsPast r) {Z : Prop} : r + 1 < 110 ∨ Z := Or.inl (by have := H.2.2; omega)
def tg (h : Hp) (t : Nat) : Bool := (decide (t = 26) || (decide (110 ≤ t) && decide ((t - 110) % 3 = 0))) && decide (t + 2 < sz h)
theorem tg_spec {h : Hp} {t : Nat} (hg : tg h t = true) : kd t = .inl (9, [some (t + 1), some (t + 2), none, none]) ∧ kd (t + 1) = .inr (0, none) ∧ kd (t + 2) = .inr (0, none) ∧ t + 2 < sz h := by
  simp only [tg, Bool.and_eq_true, Bool.or_eq_true, decide_eq_true_eq] at hg
  obtain ⟨h1, h2⟩ := hg
  refine ⟨?_, ?_, ?_, h2⟩
  · rcases h1 with rfl | ⟨h3, h4⟩
    · rfl
    · unfold kd; rw [if_neg (by omega), if_pos h4]
  · rcases h1 with rfl | ⟨h3, h4⟩
    · rfl
    · unfold kd; rw [if_neg (by omega), if_neg (by omega)]
  · rcases h1 with rfl | ⟨h3, h4⟩
    · rfl
    · unfold kd; rw [if_neg (by omega), if_neg (by omega)]
theorem tb0 {h : Hp} {t : Nat} (hg : tg h t = true) : t < 110 ∨ t < sz h := Or.inr (by have := (tg_spec hg).2.2.2; omega)
theorem tb1 {h : Hp} {t : Nat} (hg : tg h t = true) : t + 1 < 110 ∨ t + 1 < sz h := Or.inr (by have := (tg_spec hg).2.2.2; omega)
theorem tb2 {h : Hp} {t : Nat} (hg : tg h t = true) : t + 2 < 110 ∨ t + 2 < sz h := Or.inr (by have := (tg_spec hg).2.2.2; omega)
theorem kd_0 : kd 0 = .inl (10, [some 32, some 1, some 2, some 3, some 4, some 56, some 10, some 59, some 60, some 68, some 12, some 17, some 22, some 23, some 24, some 25, none, none, none, none]) := rfl
theorem kd_1 : kd 1 = .inr (5, some 2) := rfl
theorem kd_2 : kd 2 = .inr (2, some 2) := rfl
theorem kd_3 : kd 3 = .inr (0, some 400) := rfl
theorem kd_4 : kd 4 = .inl (5, [some 5, some 6, some 7, some 8, some 9, none, none, none, none, none, none]) := rfl
theorem kd_5 : kd 5 = .inr (0, some 401) := rfl
theorem kd_6 : kd 6 = .inr (0, some 401) := rfl
theorem kd_7 : kd 7 = .inr (0, some 401) := rfl
theorem kd_8 : kd 8 = .inr (0, some 800) := rfl
theorem kd_9 : kd 9 = .inr (0, some 72) := rfl
theorem kd_10 : kd 10 = .inl (4, [some 11, none, none]) := rfl
theorem kd_11 : kd 11 = .inr (0, some 416) := rfl
theorem kd_12 : kd 12 = .inl (6, [none, some 13, some 14, some 15, some 16]) := rfl
theorem kd_13 : kd 13 = .inr (0, some 18) := rfl
theorem kd_14 : kd 14 = .inr (0, some 6) := rfl
theorem kd_15 : kd 15 = .inr (0, some 6) := rfl
theorem kd_16 : kd 16 = .inr (0, some 3) := rfl
theorem kd_17 : kd 17 = .inl (6, [none, some 18, some 19, some 20, some 21]) := rfl
theorem kd_18 : kd 18 = .inr (0, some 18) := rfl
theorem kd_19 : kd 19 = .inr (0, some 6) := rfl
theorem kd_20 : kd 20 = .inr (0, some 6) := rfl
theorem kd_21 : kd 21 = .inr (0, some 3) := rfl
theorem kd_22 : kd 22 = .inr (0, some 9) := rfl
theorem kd_23 : kd 23 = .inr (0, some 9) := rfl
theorem kd_24 : kd 24 = .inr (3, some 20) := rfl
theorem kd_25 : kd 25 = .inr (0, some 7) := rfl
theorem kd_26 : kd 26 = .inl (9, [some 27, some 28, none, none]) := rfl
theorem kd_27 : kd 27 = .inr (0, none) := rfl
theorem kd_28 : kd 28 = .inr (0, none) := rfl
theorem kd_29 : kd 29 = .inl (2, [some 30, some 31]) := rfl
theorem kd_30 : kd 30 = .inr (0, some 24) := rfl
theorem kd_31 : kd 31 = .inr (0, some 64) := rfl
theorem kd_32 : kd 32 = .inl (1, [some 33, some 26, some 38, none, none, some 39, none]) := rfl
theorem kd_33 : kd 33 = .inl (6, [none, some 34, some 35, some 36, some 37]) := rfl
theorem kd_34 : kd 34 = .inr (0, some 18) := rfl
theorem kd_35 : kd 35 = .inr (0, some 6) := rfl
theorem kd_36 : kd 36 = .inr (0, some 6) := rfl
theorem kd_37 : kd 37 = .inr (0, some 3) := rfl
theorem kd_38 : kd 38 = .inr (4, some 6) := rfl
theorem kd_39 : kd 39 = .inr (0, some 18) := rfl
theorem kd_40 : kd 40 = .inl (1, [some 41, some 26, some 46, none, none, some 47, none]) := rfl
theorem kd_41 : kd 41 = .inl (6, [none, some 42, some 43, some 44, some 45]) := rfl
theorem kd_42 : kd 42 = .inr (0, some 18) := rfl
theorem kd_43 : kd 43 = .inr (0, some 6) := rfl
theorem kd_44 : kd 44 = .inr (0, some 6) := rfl
theorem kd_45 : kd 45 = .inr (0, some 3) := rfl
theorem kd_46 : kd 46 = .inr (4, some 6) := rfl
theorem kd_47 : kd 47 = .inr (0, some 18) := rfl
theorem kd_48 : kd 48 = .inl (1, [some 49, some 26, some 54, none, none, some 55, none]) := rfl
theorem kd_49 : kd 49 = .inl (6, [none, some 50, some 51, some 52, some 53]) := rfl
theorem kd_50 : kd 50 = .inr (0, some 18) := rfl
theorem kd_51 : kd 51 = .inr (0, some 6) := rfl
theorem kd_52 : kd 52 = .inr (0, some 6) := rfl
theorem kd_53 : kd 53 = .inr (0, some 3) := rfl
theorem kd_54 : kd 54 = .inr (4, some 6) := rfl
theorem kd_55 : kd 55 = .inr (0, some 18) := rfl
theorem kd_56 : kd 56 = .inl (8, [some 29, some 57, some 58]) := rfl
theorem kd_57 : kd 57 = .inr (0, some 18) := rfl
theorem kd_58 : kd 58 = .inr (0, some 9) := rfl
theorem kd_59 : kd 59 = .inl (3, [some 32, some 10, some 56]) := rfl
theorem kd_60 : kd 60 = .inl (0, [some 59, some 29, some 61, some 66, none, none, none]) := rfl
theorem kd_61 : kd 61 = .inl (6, [none, some 62, some 63, some 64, some 65]) := rfl
theorem kd_62 : kd 62 = .inr (0, some 18) := rfl
theorem kd_63 : kd 63 = .inr (0, some 6) := rfl
theorem kd_64 : kd 64 = .inr (0, some 6) := rfl
theorem kd_65 : kd 65 = .inr (0, some 3) := rfl
theorem kd_66 : kd 66 = .inl (4, [some 67, none, none]) := rfl
theorem kd_67 : kd 67 = .inr (0, some 416) := rfl
theorem kd_68 : kd 68 = .inl (7, [some 56, some 69, some 74, some 75, some 76, some 77, some 78, some 79, some 80, none, none, none]) := rfl
theorem kd_69 : kd 69 = .inl (6, [none, some 70, some 71, some 72, some 73]) := rfl
theorem kd_70 : kd 70 = .inr (0, some 18) := rfl
theorem kd_71 : kd 71 = .inr (0, some 6) := rfl
theorem kd_72 : kd 72 = .inr (0, some 6) := rfl
theorem kd_73 : kd 73 = .inr (0, some 3) := rfl
theorem kd_74 : kd 74 = .inr (0, some 720) := rfl
theorem kd_75 : kd 75 = .inr (0, some 7200) := rfl
theorem kd_76 : kd 76 = .inr (0, some 720) := rfl
theorem kd_77 : kd 77 = .inr (0, some 720) := rfl
theorem kd_78 : kd 78 = .inr (0, some 6) := rfl
theorem kd_79 : kd 79 = .inr (0, some 6) := rfl
theorem kd_80 : kd 80 = .inr (0, some 3) := rfl
theorem kd_81 : kd 81 = .inl (11, [none, some 82, some 83, some 84, some 85, some 86, none, some 87, none, none, none, some 88, some 89, none, none, some 90, some 91, some 92, none, none, none, none, none, none, none, none, some 93, none, none, some 94, some 95, some 96, none, some 97, some 98, none, none, some 99, some 100, some 101, some 102, some 103, some 104, some 105, some 106, some 107, none, none, none, none, none, none, some 108, some 109, none, none]) := rfl
theorem kd_82 : kd 82 = .inr (0, some 7) := rfl
theorem kd_83 : kd 83 = .inr (0, some 5662) := rfl
theorem kd_84 : kd 84 = .inr (0, some 11324) := rfl
theorem kd_85 : kd 85 = .inr (2, some 2) := rfl
theorem kd_86 : kd 86 = .inr (0, some 50) := rfl
theorem kd_87 : kd 87 = .inr (1, some 144) := rfl
theorem kd_88 : kd 88 = .inr (1, some 400) := rfl
theorem kd_89 : kd 89 = .inr (0, some 5) := rfl
theorem kd_90 : kd 90 = .inr (0, some 401) := rfl
theorem kd_91 : kd 91 = .inr (0, some 401) := rfl
theorem kd_92 : kd 92 = .inr (0, some 401) := rfl
theorem kd_93 : kd 93 = .inr (0, some 8) := rfl
theorem kd_94 : kd 94 = .inr (0, some 18) := rfl
theorem kd_95 : kd 95 = .inr (0, some 416) := rfl
theorem kd_96 : kd 96 = .inr (0, some 416) := rfl
theorem kd_97 : kd 97 = .inr (0, some 6) := rfl
theorem kd_98 : kd 98 = .inr (0, some 6) := rfl
theorem kd_99 : kd 99 = .inr (0, some 720) := rfl
theorem kd_100 : kd 100 = .inr (0, some 720) := rfl
theorem kd_101 : kd 101 = .inr (0, some 720) := rfl
theorem kd_102 : kd 102 = .inr (2, some 720) := rfl
theorem kd_103 : kd 103 = .inr (0, some 4320) := rfl
theorem kd_104 : kd 104 = .inr (0, some 3) := rfl
theorem kd_105 : kd 105 = .inr (0, some 6) := rfl
theorem kd_106 : kd 106 = .inr (0, some 6) := rfl
theorem kd_107 : kd 107 = .inr (3, some 21) := rfl
theorem kd_108 : kd 108 = .inr (3, some 2) := rfl
theorem kd_109 : kd 109 = .inr (0, some 25) := rfl
theorem past_10 : IsPast 10 := ⟨rfl, rfl, by decide⟩
theorem room_12 : IsRoom 12 := ⟨rfl, rfl, rfl, rfl, rfl, by decide⟩
theorem room_17 : IsRoom 17 := ⟨rfl, rfl, rfl, rfl, rfl, by decide⟩
theorem house_32 : IsHouse 32 := ⟨rfl, ⟨rfl, rfl, rfl, rfl, rfl, by decide⟩, rfl, rfl, by decide⟩
theorem room_33 : IsRoom 33 := ⟨rfl, rfl, rfl, rfl, rfl, by decide⟩
theorem house_40 : IsHouse 40 := ⟨rfl, ⟨rfl, rfl, rfl, rfl, rfl, by decide⟩, rfl, rfl, by decide⟩
theorem room_41 : IsRoom 41 := ⟨rfl, rfl, rfl, rfl, rfl, by decide⟩
theorem house_48 : IsHouse 48 := ⟨rfl, ⟨rfl, rfl, rfl, rfl, rfl, by decide⟩, rfl, rfl, by decide⟩
theorem room_49 : IsRoom 49 := ⟨rfl, rfl, rfl, rfl, rfl, by decide⟩
theorem room_61 : IsRoom 61 := ⟨rfl, rfl, rfl, rfl, rfl, by decide⟩
theorem past_66 : IsPast 66 := ⟨rfl, rfl, by decide⟩
theorem room_69 : IsRoom 69 := ⟨rfl, rfl, rfl, rfl, rfl, by decide⟩
theorem fl_10_11 : FLk cn_10 11 10 1 (.array (.object "SteamNations$House")) true := ⟨cn_10, ft_10, 20, fy_10, rfl, by decide, in_10, fo_10, nm_10, gm_2 86 rfl rfl, rfl, rfl⟩
theorem fl_10_15 : FLk cn_10 15 10 2 (.array .boolean) true := ⟨cn_10, ft_10, 20, fy_10, rfl, by decide, in_10, fo_10, nm_10, gm_2 87 rfl rfl, rfl, rfl⟩
theorem fl_10_19 : FLk cn_10 19 10 3 (.array .int) true := ⟨cn_10, ft_10, 20, fy_10, rfl, by decide, in_10, fo_10, nm_10, gm_2 88 rfl rfl, rfl, rfl⟩
theorem fl_10_26 : FLk cn_10 26 10 4 (.object "SteamNations$Reader") true := ⟨cn_10, ft_10, 20, fy_10, rfl, by decide, in_10, fo_10, nm_10, gm_2 89 rfl rfl, rfl, rfl⟩
theorem fl_10_33 : FLk cn_10 33 10 6 (.object "SteamNations$Past") true := ⟨cn_10, ft_10, 20, fy_10, rfl, by decide, in_10, fo_10, nm_10, gm_2 91 rfl rfl, rfl, rfl⟩
theorem fl_10_40 : FLk cn_10 40 10 10 (.object "SteamNations$Room") true := ⟨cn_10, ft_10, 20, fy_10, rfl, by decide, in_10, fo_10, nm_10, gm_2 95 rfl rfl, rfl, rfl⟩
theorem fl_10_44 : FLk cn_10 44 10 11 (.object "SteamNations$Room") true := ⟨cn_10, ft_10, 20, fy_10, rfl, by decide, in_10, fo_10, nm_10, gm_2 96 rfl rfl, rfl, rfl⟩
theorem fl_10_47 : FLk cn_10 47 10 12 (.array .int) true := ⟨cn_10, ft_10, 20, fy_10, rfl, by decide, in_10, fo_10, nm_10, gm_2 97 rfl rfl, rfl, rfl⟩
theorem fl_10_50 : FLk cn_10 50 10 13 (.array .int) true := ⟨cn_10, ft_10, 20, fy_10, rfl, by decide, in_10, fo_10, nm_10, gm_2 98 rfl rfl, rfl, rfl⟩
theorem fl_10_53 : FLk cn_10 53 10 14 (.array .long) true := ⟨cn_10, ft_10, 20, fy_10, rfl, by decide, in_10, fo_10, nm_10, gm_2 99 rfl rfl, rfl, rfl⟩
theorem fl_10_57 : FLk cn_10 57 10 15 (.array .int) true := ⟨cn_10, ft_10, 20, fy_10, rfl, by decide, in_10, fo_10, nm_10, gm_2 100 rfl rfl, rfl, rfl⟩
theorem fl_10_60 : FLk cn_10 60 10 17 (.int) false := ⟨cn_10, ft_10, 20, fy_10, rfl, by decide, in_10, fo_10, nm_10, gm_2 102 rfl rfl, rfl, rfl⟩
theorem fl_10_75 : FLk cn_10 75 10 0 (.object "SteamNations$House") true := ⟨cn_10, ft_10, 20, fy_10, rfl, by decide, in_10, fo_10, nm_10, gm_2 85 rfl rfl, rfl, rfl⟩
theorem fl_10_84 : FLk cn_10 84 10 5 (.object "SteamNations$Steam") true := ⟨cn_10, ft_10, 20, fy_10, rfl, by decide, in_10, fo_10, nm_10, gm_2 90 rfl rfl, rfl, rfl⟩
theorem fl_10_93 : FLk cn_10 93 10 7 (.object "SteamNations$Moves") true := ⟨cn_10, ft_10, 20, fy_10, rfl, by decide, in_10, fo_10, nm_10, gm_2 92 rfl rfl, rfl, rfl⟩
theorem fl_10_102 : FLk cn_10 102 10 8 (.object "SteamNations$Errands") true := ⟨cn_10, ft_10, 20, fy_10, rfl, by decide, in_10, fo_10, nm_10, gm_2 93 rfl rfl, rfl, rfl⟩
theorem fl_10_111 : FLk cn_10 111 10 9 (.object "SteamNations$Seatings") true := ⟨cn_10, ft_10, 20, fy_10, rfl, by decide, in_10, fo_10, nm_10, gm_2 94 rfl rfl, rfl, rfl⟩
theorem fl_10_123 : FLk cn_10 123 1 0 (.object "SteamNations$Room") true := ⟨cn_1, ft_1, 7, fy_1, rfl, by decide, in_1, fo_1, nm_1, gm_1 187 rfl rfl, rfl, rfl⟩
theorem fl_10_126 : FLk cn_10 126 6 0 (.int) false := ⟨cn_6, ft_6, 5, fy_6, rfl, by decide, in_6, fo_6, nm_6, gm_1 103 rfl rfl, rfl, rfl⟩
theorem fl_10_143 : FLk cn_10 143 6 1 (.array .int) true := ⟨cn_6, ft_6, 5, fy_6, rfl, by decide, in_6, fo_6, nm_6, gm_1 107 rfl rfl, rfl, rfl⟩
theorem fl_10_146 : FLk cn_10 146 6 2 (.array .int) true := ⟨cn_6, ft_6, 5, fy_6, rfl, by decide, in_6, fo_6, nm_6, gm_1 111 rfl rfl, rfl, rfl⟩
theorem fl_10_149 : FLk cn_10 149 6 3 (.array .int) true := ⟨cn_6, ft_6, 5, fy_6, rfl, by decide, in_6, fo_6, nm_6, gm_1 116 rfl rfl, rfl, rfl⟩
theorem fl_10_184 : FLk cn_10 184 6 4 (.array .int) true := ⟨cn_6, ft_6, 5, fy_6, rfl, by decide, in_6, fo_6, nm_6, gm_1 125 rfl rfl, rfl, rfl⟩
theorem fl_10_187 : FLk cn_10 187 10 16 (.int) false := ⟨cn_10, ft_10, 20, fy_10, rfl, by decide, in_10, fo_10, nm_10, gm_2 101 rfl rfl, rfl, rfl⟩
theorem fl_10_194 : FLk cn_10 194 10 18 (.int) false := ⟨cn_10, ft_10, 20, fy_10, rfl, by decide, in_10, fo_10, nm_10, gm_2 103 rfl rfl, rfl, rfl⟩
theorem fl_10_204 : FLk cn_10 204 1 3 (.int) false := ⟨cn_1, ft_1, 7, fy_1, rfl, by decide, in_1, fo_1, nm_1, gm_1 191 rfl rfl, rfl, rfl⟩
theorem fl_10_211 : FLk cn_10 211 5 10 (.int) false := ⟨cn_5, ft_5, 11, fy_5, rfl, by decide, in_5, fo_5, nm_5, gm_1 48 rfl rfl, rfl, rfl⟩
theorem fl_10_218 : FLk cn_10 218 0 6 (.int) false := ⟨cn_0, ft_0, 7, fy_0, rfl, by decide, in_0, fo_0, nm_0, gm_2 24 rfl rfl, rfl, rfl⟩
theorem fl_10_227 : FLk cn_10 227 1 4 (.int) false := ⟨cn_1, ft_1, 7, fy_1, rfl, by decide, in_1, fo_1, nm_1, gm_1 193 rfl rfl, rfl, rfl⟩
theorem fl_10_294 : FLk cn_10 294 1 6 (.int) false := ⟨cn_1, ft_1, 7, fy_1, rfl, by decide, in_1, fo_1, nm_1, gm_1 197 rfl rfl, rfl, rfl⟩
theorem fl_10_368 : FLk cn_10 368 4 2 (.int) false := ⟨cn_4, ft_4, 3, fy_4, rfl, by decide, in_4, fo_4, nm_4, gm_1 83 rfl rfl, rfl, rfl⟩
theorem fl_10_374 : FLk cn_10 374 10 19 (.int) false := ⟨cn_10, ft_10, 20, fy_10, rfl, by decide, in_10, fo_10, nm_10, gm_2 104 rfl rfl, rfl, rfl⟩
theorem fl_0_12 : FLk cn_0 12 0 2 (.object "SteamNations$Room") true := ⟨cn_0, ft_0, 7, fy_0, rfl, by decide, in_0, fo_0, nm_0, gm_2 19 rfl rfl, rfl, rfl⟩
theorem fl_0_21 : FLk cn_0 21 0 3 (.object "SteamNations$Past") true := ⟨cn_0, ft_0, 7, fy_0, rfl, by decide, in_0, fo_0, nm_0, gm_2 20 rfl rfl, rfl, rfl⟩
theorem fl_0_25 : FLk cn_0 25 0 6 (.int) false := ⟨cn_0, ft_0, 7, fy_0, rfl, by decide, in_0, fo_0, nm_0, gm_2 23 rfl rfl, rfl, rfl⟩
theorem fl_0_29 : FLk cn_0 29 0 0 (.object "SteamNations$Moves") true := ⟨cn_0, ft_0, 7, fy_0, rfl, by decide, in_0, fo_0, nm_0, gm_2 17 rfl rfl, rfl, rfl⟩
theorem fl_0_33 : FLk cn_0 33 0 1 (.object "SteamNations$Machine") true := ⟨cn_0, ft_0, 7, fy_0, rfl, by decide, in_0, fo_0, nm_0, gm_2 18 rfl rfl, rfl, rfl⟩
theorem fl_0_37 : FLk cn_0 37 3 0 (.object "SteamNations$House") true := ⟨cn_3, ft_3, 3, fy_3, rfl, by decide, in_3, fo_3, nm_3, gm_1 236 rfl rfl, rfl, rfl⟩
theorem fl_0_43 : FLk cn_0 43 1 0 (.object "SteamNations$Room") true := ⟨cn_1, ft_1, 7, fy_1, rfl, by decide, in_1, fo_1, nm_1, gm_1 186 rfl rfl, rfl, rfl⟩
theorem fl_0_52 : FLk cn_0 52 3 1 (.object "SteamNations$Past") true := ⟨cn_3, ft_3, 3, fy_3, rfl, by decide, in_3, fo_3, nm_3, gm_1 238 rfl rfl, rfl, rfl⟩
theorem fl_0_58 : FLk cn_0 58 0 4 (.int) false := ⟨cn_0, ft_0, 7, fy_0, rfl, by decide, in_0, fo_0, nm_0, gm_2 21 rfl rfl, rfl, rfl⟩
theorem fl_0_61 : FLk cn_0 61 0 5 (.int) false := ⟨cn_0, ft_0, 7, fy_0, rfl, by decide, in_0, fo_0, nm_0, gm_2 22 rfl rfl, rfl, rfl⟩
theorem fl_0_64 : FLk cn_0 64 9 2 (.int) true := ⟨cn_9, ft_9, 4, fy_9, rfl, by decide, in_9, fo_9, nm_9, gm_1 148 rfl rfl, rfl, rfl⟩
theorem fl_0_101 : FLk cn_0 101 2 0 (.array .int) true := ⟨cn_2, ft_2, 2, fy_2, rfl, by decide, in_2, fo_2, nm_2, gm_1 167 rfl rfl, rfl, rfl⟩
theorem fl_0_107 : FLk cn_0 107 6 4 (.array .int) true := ⟨cn_6, ft_6, 5, fy_6, rfl, by decide, in_6, fo_6, nm_6, gm_1 121 rfl rfl, rfl, rfl⟩
theorem fl_1_12 : FLk cn_1 12 1 0 (.object "SteamNations$Room") true := ⟨cn_1, ft_1, 7, fy_1, rfl, by decide, in_1, fo_1, nm_1, gm_1 184 rfl rfl, rfl, rfl⟩
theorem fl_1_20 : FLk cn_1 20 1 2 (.array (.object "SteamNations$Text")) true := ⟨cn_1, ft_1, 7, fy_1, rfl, by decide, in_1, fo_1, nm_1, gm_1 189 rfl rfl, rfl, rfl⟩
theorem fl_1_24 : FLk cn_1 24 1 4 (.int) false := ⟨cn_1, ft_1, 7, fy_1, rfl, by decide, in_1, fo_1, nm_1, gm_1 192 rfl rfl, rfl, rfl⟩
theorem fl_1_28 : FLk cn_1 28 1 5 (.array .int) true := ⟨cn_1, ft_1, 7, fy_1, rfl, by decide, in_1, fo_1, nm_1, gm_1 194 rfl rfl, rfl, rfl⟩
theorem fl_1_32 : FLk cn_1 32 1 1 (.object "SteamNations$Text") true := ⟨cn_1, ft_1, 7, fy_1, rfl, by decide, in_1, fo_1, nm_1, gm_1 188 rfl rfl, rfl, rfl⟩
theorem fl_1_40 : FLk cn_1 40 1 3 (.int) false := ⟨cn_1, ft_1, 7, fy_1, rfl, by decide, in_1, fo_1, nm_1, gm_1 190 rfl rfl, rfl, rfl⟩
theorem fl_1_49 : FLk cn_1 49 1 6 (.int) false := ⟨cn_1, ft_1, 7, fy_1, rfl, by decide, in_1, fo_1, nm_1, gm_1 195 rfl rfl, rfl, rfl⟩
theorem fl_2_13 : FLk cn_2 13 2 0 (.array .int) true := ⟨cn_2, ft_2, 2, fy_2, rfl, by decide, in_2, fo_2, nm_2, gm_1 166 rfl rfl, rfl, rfl⟩
theorem fl_2_19 : FLk cn_2 19 2 1 (.array .int) true := ⟨cn_2, ft_2, 2, fy_2, rfl, by decide, in_2, fo_2, nm_2, gm_1 169 rfl rfl, rfl, rfl⟩
theorem fl_2_28 : FLk cn_2 28 9 0 (.array .int) true := ⟨cn_9, ft_9, 4, fy_9, rfl, by decide, in_9, fo_9, nm_9, gm_1 144 rfl rfl, rfl, rfl⟩
theorem fl_3_9 : FLk cn_3 9 3 0 (.object "SteamNations$House") true := ⟨cn_3, ft_3, 3, fy_3, rfl, by decide, in_3, fo_3, nm_3, gm_1 235 rfl rfl, rfl, rfl⟩
theorem fl_3_15 : FLk cn_3 15 3 1 (.object "SteamNations$Past") true := ⟨cn_3, ft_3, 3, fy_3, rfl, by decide, in_3, fo_3, nm_3, gm_1 237 rfl rfl, rfl, rfl⟩
theorem fl_3_19 : FLk cn_3 19 3 2 (.object "SteamNations$Steam") true := ⟨cn_3, ft_3, 3, fy_3, rfl, by decide, in_3, fo_3, nm_3, gm_1 239 rfl rfl, rfl, rfl⟩
theorem fl_3_23 : FLk cn_3 23 1 0 (.object "SteamNations$Room") true := ⟨cn_1, ft_1, 7, fy_1, rfl, by decide, in_1, fo_1, nm_1, gm_1 185 rfl rfl, rfl, rfl⟩
theorem fl_3_45 : FLk cn_3 45 6 3 (.array .int) true := ⟨cn_6, ft_6, 5, fy_6, rfl, by decide, in_6, fo_6, nm_6, gm_1 115 rfl rfl, rfl, rfl⟩
theorem fl_3_56 : FLk cn_3 56 6 4 (.array .int) true := ⟨cn_6, ft_6, 5, fy_6, rfl, by decide, in_6, fo_6, nm_6, gm_1 124 rfl rfl, rfl, rfl⟩
theorem fl_4_11 : FLk cn_4 11 4 0 (.array .int) true := ⟨cn_4, ft_4, 3, fy_4, rfl, by decide, in_4, fo_4, nm_4, gm_1 80 rfl rfl, rfl, rfl⟩
theorem fl_4_15 : FLk cn_4 15 4 2 (.int) false := ⟨cn_4, ft_4, 3, fy_4, rfl, by decide, in_4, fo_4, nm_4, gm_1 82 rfl rfl, rfl, rfl⟩
theorem fl_4_25 : FLk cn_4 25 4 1 (.int) false := ⟨cn_4, ft_4, 3, fy_4, rfl, by decide, in_4, fo_4, nm_4, gm_1 81 rfl rfl, rfl, rfl⟩
theorem fl_4_28 : FLk cn_4 28 6 4 (.array .int) true := ⟨cn_6, ft_6, 5, fy_6, rfl, by decide, in_6, fo_6, nm_6, gm_1 122 rfl rfl, rfl, rfl⟩
theorem fl_4_33 : FLk cn_4 33 6 3 (.array .int) true := ⟨cn_6, ft_6, 5, fy_6, rfl, by decide, in_6, fo_6, nm_6, gm_1 118 rfl rfl, rfl, rfl⟩
theorem fl_4_36 : FLk cn_4 36 6 1 (.array .int) true := ⟨cn_6, ft_6, 5, fy_6, rfl, by decide, in_6, fo_6, nm_6, gm_1 108 rfl rfl, rfl, rfl⟩
theorem fl_5_11 : FLk cn_5 11 5 0 (.array .int) true := ⟨cn_5, ft_5, 11, fy_5, rfl, by decide, in_5, fo_5, nm_5, gm_1 37 rfl rfl, rfl, rfl⟩
theorem fl_5_15 : FLk cn_5 15 5 1 (.array .int) true := ⟨cn_5, ft_5, 11, fy_5, rfl, by decide, in_5, fo_5, nm_5, gm_1 38 rfl rfl, rfl, rfl⟩
theorem fl_5_18 : FLk cn_5 18 5 2 (.array .int) true := ⟨cn_5, ft_5, 11, fy_5, rfl, by decide, in_5, fo_5, nm_5, gm_1 39 rfl rfl, rfl, rfl⟩
theorem fl_5_23 : FLk cn_5 23 5 3 (.array .int) true := ⟨cn_5, ft_5, 11, fy_5, rfl, by decide, in_5, fo_5, nm_5, gm_1 40 rfl rfl, rfl, rfl⟩
theorem fl_5_28 : FLk cn_5 28 5 4 (.array .int) true := ⟨cn_5, ft_5, 11, fy_5, rfl, by decide, in_5, fo_5, nm_5, gm_1 41 rfl rfl, rfl, rfl⟩
theorem fl_5_31 : FLk cn_5 31 5 10 (.int) false := ⟨cn_5, ft_5, 11, fy_5, rfl, by decide, in_5, fo_5, nm_5, gm_1 47 rfl rfl, rfl, rfl⟩
theorem fl_5_35 : FLk cn_5 35 5 5 (.boolean) false := ⟨cn_5, ft_5, 11, fy_5, rfl, by decide, in_5, fo_5, nm_5, gm_1 42 rfl rfl, rfl, rfl⟩
theorem fl_5_39 : FLk cn_5 39 5 8 (.int) false := ⟨cn_5, ft_5, 11, fy_5, rfl, by decide, in_5, fo_5, nm_5, gm_1 45 rfl rfl, rfl, rfl⟩
theorem fl_5_42 : FLk cn_5 42 5 9 (.int) false := ⟨cn_5, ft_5, 11, fy_5, rfl, by decide, in_5, fo_5, nm_5, gm_1 46 rfl rfl, rfl, rfl⟩
theorem fl_5_55 : FLk cn_5 55 5 6 (.int) false := ⟨cn_5, ft_5, 11, fy_5, rfl, by decide, in_5, fo_5, nm_5, gm_1 43 rfl rfl, rfl, rfl⟩
theorem fl_5_71 : FLk cn_5 71 5 7 (.int) false := ⟨cn_5, ft_5, 11, fy_5, rfl, by decide, in_5, fo_5, nm_5, gm_1 44 rfl rfl, rfl, rfl⟩
theorem fl_6_9 : FLk cn_6 9 6 1 (.array .int) true := ⟨cn_6, ft_6, 5, fy_6, rfl, by decide, in_6, fo_6, nm_6, gm_1 106 rfl rfl, rfl, rfl⟩
theorem fl_6_15 : FLk cn_6 15 6 2 (.array .int) true := ⟨cn_6, ft_6, 5, fy_6, rfl, by decide, in_6, fo_6, nm_6, gm_1 110 rfl rfl, rfl, rfl⟩
theorem fl_6_18 : FLk cn_6 18 6 3 (.array .int) true := ⟨cn_6, ft_6, 5, fy_6, rfl, by decide, in_6, fo_6, nm_6, gm_1 114 rfl rfl, rfl, rfl⟩
theorem fl_6_24 : FLk cn_6 24 6 4 (.array .int) true := ⟨cn_6, ft_6, 5, fy_6, rfl, by decide, in_6, fo_6, nm_6, gm_1 120 rfl rfl, rfl, rfl⟩
theorem fl_6_33 : FLk cn_6 33 6 0 (.int) false := ⟨cn_6, ft_6, 5, fy_6, rfl, by decide, in_6, fo_6, nm_6, gm_1 102 rfl rfl, rfl, rfl⟩
theorem fl_7_12 : FLk cn_7 12 7 1 (.object "SteamNations$Room") true := ⟨cn_7, ft_7, 12, fy_7, rfl, by decide, in_7, fo_7, nm_7, gm_2 49 rfl rfl, rfl, rfl⟩
theorem fl_7_18 : FLk cn_7 18 7 2 (.array .int) true := ⟨cn_7, ft_7, 12, fy_7, rfl, by decide, in_7, fo_7, nm_7, gm_2 50 rfl rfl, rfl, rfl⟩
theorem fl_7_22 : FLk cn_7 22 7 3 (.array .int) true := ⟨cn_7, ft_7, 12, fy_7, rfl, by decide, in_7, fo_7, nm_7, gm_2 51 rfl rfl, rfl, rfl⟩
theorem fl_7_25 : FLk cn_7 25 7 4 (.array .int) true := ⟨cn_7, ft_7, 12, fy_7, rfl, by decide, in_7, fo_7, nm_7, gm_2 52 rfl rfl, rfl, rfl⟩
theorem fl_7_28 : FLk cn_7 28 7 5 (.array .int) true := ⟨cn_7, ft_7, 12, fy_7, rfl, by decide, in_7, fo_7, nm_7, gm_2 53 rfl rfl, rfl, rfl⟩
theorem fl_7_31 : FLk cn_7 31 7 6 (.array .int) true := ⟨cn_7, ft_7, 12, fy_7, rfl, by decide, in_7, fo_7, nm_7, gm_2 54 rfl rfl, rfl, rfl⟩
theorem fl_7_34 : FLk cn_7 34 7 7 (.array .int) true := ⟨cn_7, ft_7, 12, fy_7, rfl, by decide, in_7, fo_7, nm_7, gm_2 55 rfl rfl, rfl, rfl⟩
theorem fl_7_37 : FLk cn_7 37 7 8 (.array .int) true := ⟨cn_7, ft_7, 12, fy_7, rfl, by decide, in_7, fo_7, nm_7, gm_2 56 rfl rfl, rfl, rfl⟩
theorem fl_7_40 : FLk cn_7 40 7 11 (.int) false := ⟨cn_7, ft_7, 12, fy_7, rfl, by decide, in_7, fo_7, nm_7, gm_2 59 rfl rfl, rfl, rfl⟩
theorem fl_7_44 : FLk cn_7 44 7 0 (.object "SteamNations$Steam") true := ⟨cn_7, ft_7, 12, fy_7, rfl, by decide, in_7, fo_7, nm_7, gm_2 48 rfl rfl, rfl, rfl⟩
theorem fl_7_48 : FLk cn_7 48 7 10 (.int) false := ⟨cn_7, ft_7, 12, fy_7, rfl, by decide, in_7, fo_7, nm_7, gm_2 58 rfl rfl, rfl, rfl⟩
theorem fl_7_71 : FLk cn_7 71 6 0 (.int) false := ⟨cn_6, ft_6, 5, fy_6, rfl, by decide, in_6, fo_6, nm_6, gm_1 105 rfl rfl, rfl, rfl⟩
theorem fl_7_78 : FLk cn_7 78 6 2 (.array .int) true := ⟨cn_6, ft_6, 5, fy_6, rfl, by decide, in_6, fo_6, nm_6, gm_1 112 rfl rfl, rfl, rfl⟩
theorem fl_7_104 : FLk cn_7 104 7 9 (.int) false := ⟨cn_7, ft_7, 12, fy_7, rfl, by decide, in_7, fo_7, nm_7, gm_2 57 rfl rfl, rfl, rfl⟩
theorem fl_7_129 : FLk cn_7 129 1 6 (.int) false := ⟨cn_1, ft_1, 7, fy_1, rfl, by decide, in_1, fo_1, nm_1, gm_1 196 rfl rfl, rfl, rfl⟩
theorem fl_7_152 : FLk cn_7 152 6 3 (.array .int) true := ⟨cn_6, ft_6, 5, fy_6, rfl, by decide, in_6, fo_6, nm_6, gm_1 119 rfl rfl, rfl, rfl⟩
theorem fl_8_9 : FLk cn_8 9 8 1 (.array .int) true := ⟨cn_8, ft_8, 3, fy_8, rfl, by decide, in_8, fo_8, nm_8, gm_1 220 rfl rfl, rfl, rfl⟩
theorem fl_8_15 : FLk cn_8 15 8 2 (.array .int) true := ⟨cn_8, ft_8, 3, fy_8, rfl, by decide, in_8, fo_8, nm_8, gm_1 221 rfl rfl, rfl, rfl⟩
theorem fl_8_18 : FLk cn_8 18 8 0 (.object "SteamNations$Machine") true := ⟨cn_8, ft_8, 3, fy_8, rfl, by decide, in_8, fo_8, nm_8, gm_1 219 rfl rfl, rfl, rfl⟩
theorem fl_8_32 : FLk cn_8 32 9 2 (.int) true := ⟨cn_9, ft_9, 4, fy_9, rfl, by decide, in_9, fo_9, nm_9, gm_1 147 rfl rfl, rfl, rfl⟩
theorem fl_8_73 : FLk cn_8 73 6 0 (.int) false := ⟨cn_6, ft_6, 5, fy_6, rfl, by decide, in_6, fo_6, nm_6, gm_1 104 rfl rfl, rfl, rfl⟩
theorem fl_8_76 : FLk cn_8 76 6 3 (.array .int) true := ⟨cn_6, ft_6, 5, fy_6, rfl, by decide, in_6, fo_6, nm_6, gm_1 117 rfl rfl, rfl, rfl⟩
theorem fl_8_83 : FLk cn_8 83 6 1 (.array .int) true := ⟨cn_6, ft_6, 5, fy_6, rfl, by decide, in_6, fo_6, nm_6, gm_1 109 rfl rfl, rfl, rfl⟩
theorem fl_8_93 : FLk cn_8 93 6 4 (.array .int) true := ⟨cn_6, ft_6, 5, fy_6, rfl, by decide, in_6, fo_6, nm_6, gm_1 123 rfl rfl, rfl, rfl⟩
theorem fl_8_99 : FLk cn_8 99 2 0 (.array .int) true := ⟨cn_2, ft_2, 2, fy_2, rfl, by decide, in_2, fo_2, nm_2, gm_1 168 rfl rfl, rfl, rfl⟩
theorem fl_8_102 : FLk cn_8 102 6 2 (.array .int) true := ⟨cn_6, ft_6, 5, fy_6, rfl, by decide, in_6, fo_6, nm_6, gm_1 113 rfl rfl, rfl, rfl⟩
theorem fl_9_9 : FLk cn_9 9 9 0 (.array .int) true := ⟨cn_9, ft_9, 4, fy_9, rfl, by decide, in_9, fo_9, nm_9, gm_1 143 rfl rfl, rfl, rfl⟩
theorem fl_9_15 : FLk cn_9 15 9 1 (.array .int) true := ⟨cn_9, ft_9, 4, fy_9, rfl, by decide, in_9, fo_9, nm_9, gm_1 145 rfl rfl, rfl, rfl⟩
theorem fl_9_18 : FLk cn_9 18 9 2 (.int) true := ⟨cn_9, ft_9, 4, fy_9, rfl, by decide, in_9, fo_9, nm_9, gm_1 146 rfl rfl, rfl, rfl⟩
theorem fl_9_22 : FLk cn_9 22 9 3 (.int) true := ⟨cn_9, ft_9, 4, fy_9, rfl, by decide, in_9, fo_9, nm_9, gm_1 149 rfl rfl, rfl, rfl⟩
theorem fl_11_3 : FLk cn_11 3 11 0 (.int) false := ⟨cn_11, ft_11, 56, fy_11, rfl, by decide, in_11, fo_11, nm_11, gm_5 173 rfl rfl, rfl, rfl⟩
theorem fl_11_7 : FLk cn_11 7 11 1 (.array .int) true := ⟨cn_11, ft_11, 56, fy_11, rfl, by decide, in_11, fo_11, nm_11, gm_5 174 rfl rfl, rfl, rfl⟩
theorem fl_11_11 : FLk cn_11 11 11 32 (.int) false := ⟨cn_11, ft_11, 56, fy_11, rfl, by decide, in_11, fo_11, nm_11, gm_5 205 rfl rfl, rfl, rfl⟩
theorem fl_11_28 : FLk cn_11 28 11 2 (.array .int) true := ⟨cn_11, ft_11, 56, fy_11, rfl, by decide, in_11, fo_11, nm_11, gm_5 175 rfl rfl, rfl, rfl⟩
theorem fl_11_31 : FLk cn_11 31 11 3 (.array .int) true := ⟨cn_11, ft_11, 56, fy_11, rfl, by decide, in_11, fo_11, nm_11, gm_5 176 rfl rfl, rfl, rfl⟩
theorem fl_11_34 : FLk cn_11 34 11 4 (.array .boolean) true := ⟨cn_11, ft_11, 56, fy_11, rfl, by decide, in_11, fo_11, nm_11, gm_5 177 rfl rfl, rfl, rfl⟩
theorem fl_11_38 : FLk cn_11 38 11 5 (.array .int) true := ⟨cn_11, ft_11, 56, fy_11, rfl, by decide, in_11, fo_11, nm_11, gm_5 178 rfl rfl, rfl, rfl⟩
theorem fl_11_41 : FLk cn_11 41 11 7 (.array .byte) true := ⟨cn_11, ft_11, 56, fy_11, rfl, by decide, in_11, fo_11, nm_11, gm_5 180 rfl rfl, rfl, rfl⟩
theorem fl_11_45 : FLk cn_11 45 11 11 (.array .byte) true := ⟨cn_11, ft_11, 56, fy_11, rfl, by decide, in_11, fo_11, nm_11, gm_5 184 rfl rfl, rfl, rfl⟩
theorem fl_11_48 : FLk cn_11 48 11 12 (.array .int) true := ⟨cn_11, ft_11, 56, fy_11, rfl, by decide, in_11, fo_11, nm_11, gm_5 185 rfl rfl, rfl, rfl⟩
theorem fl_11_51 : FLk cn_11 51 11 14 (.int) false := ⟨cn_11, ft_11, 56, fy_11, rfl, by decide, in_11, fo_11, nm_11, gm_5 187 rfl rfl, rfl, rfl⟩
theorem fl_11_54 : FLk cn_11 54 11 15 (.array .int) true := ⟨cn_11, ft_11, 56, fy_11, rfl, by decide, in_11, fo_11, nm_11, gm_5 188 rfl rfl, rfl, rfl⟩
theorem fl_11_57 : FLk cn_11 57 11 16 (.array .int) true := ⟨cn_11, ft_11, 56, fy_11, rfl, by decide, in_11, fo_11, nm_11, gm_5 189 rfl rfl, rfl, rfl⟩
theorem fl_11_60 : FLk cn_11 60 11 17 (.array .int) true := ⟨cn_11, ft_11, 56, fy_11, rfl, by decide, in_11, fo_11, nm_11, gm_5 190 rfl rfl, rfl, rfl⟩
theorem fl_11_63 : FLk cn_11 63 11 26 (.array .int) true := ⟨cn_11, ft_11, 56, fy_11, rfl, by decide, in_11, fo_11, nm_11, gm_5 199 rfl rfl, rfl, rfl⟩
theorem fl_11_66 : FLk cn_11 66 11 29 (.array .int) true := ⟨cn_11, ft_11, 56, fy_11, rfl, by decide, in_11, fo_11, nm_11, gm_5 202 rfl rfl, rfl, rfl⟩
theorem fl_11_69 : FLk cn_11 69 11 30 (.array .int) true := ⟨cn_11, ft_11, 56, fy_11, rfl, by decide, in_11, fo_11, nm_11, gm_5 203 rfl rfl, rfl, rfl⟩
theorem fl_11_72 : FLk cn_11 72 11 31 (.array .int) true := ⟨cn_11, ft_11, 56, fy_11, rfl, by decide, in_11, fo_11, nm_11, gm_5 204 rfl rfl, rfl, rfl⟩
theorem fl_11_75 : FLk cn_11 75 11 33 (.array .int) true := ⟨cn_11, ft_11, 56, fy_11, rfl, by decide, in_11, fo_11, nm_11, gm_5 206 rfl rfl, rfl, rfl⟩
theorem fl_11_78 : FLk cn_11 78 11 34 (.array .int) true := ⟨cn_11, ft_11, 56, fy_11, rfl, by decide, in_11, fo_11, nm_11, gm_5 207 rfl rfl, rfl, rfl⟩
theorem fl_11_81 : FLk cn_11 81 11 37 (.array .int) true := ⟨cn_11, ft_11, 56, fy_11, rfl, by decide, in_11, fo_11, nm_11, gm_5 210 rfl rfl, rfl, rfl⟩
theorem fl_11_84 : FLk cn_11 84 11 38 (.array .int) true := ⟨cn_11, ft_11, 56, fy_11, rfl, by decide, in_11, fo_11, nm_11, gm_5 211 rfl rfl, rfl, rfl⟩
theorem fl_11_87 : FLk cn_11 87 11 39 (.array .int) true := ⟨cn_11, ft_11, 56, fy_11, rfl, by decide, in_11, fo_11, nm_11, gm_5 212 rfl rfl, rfl, rfl⟩
theorem fl_11_90 : FLk cn_11 90 11 40 (.array .boolean) true := ⟨cn_11, ft_11, 56, fy_11, rfl, by decide, in_11, fo_11, nm_11, gm_5 213 rfl rfl, rfl, rfl⟩
theorem fl_11_93 : FLk cn_11 93 11 41 (.array .int) true := ⟨cn_11, ft_11, 56, fy_11, rfl, by decide, in_11, fo_11, nm_11, gm_5 214 rfl rfl, rfl, rfl⟩
theorem fl_11_96 : FLk cn_11 96 11 42 (.array .int) true := ⟨cn_11, ft_11, 56, fy_11, rfl, by decide, in_11, fo_11, nm_11, gm_5 215 rfl rfl, rfl, rfl⟩
theorem fl_11_99 : FLk cn_11 99 11 43 (.array .int) true := ⟨cn_11, ft_11, 56, fy_11, rfl, by decide, in_11, fo_11, nm_11, gm_5 216 rfl rfl, rfl, rfl⟩
theorem fl_11_102 : FLk cn_11 102 11 44 (.array .int) true := ⟨cn_11, ft_11, 56, fy_11, rfl, by decide, in_11, fo_11, nm_11, gm_5 217 rfl rfl, rfl, rfl⟩
theorem fl_11_105 : FLk cn_11 105 11 45 (.array .long) true := ⟨cn_11, ft_11, 56, fy_11, rfl, by decide, in_11, fo_11, nm_11, gm_5 218 rfl rfl, rfl, rfl⟩
theorem fl_11_109 : FLk cn_11 109 11 46 (.int) false := ⟨cn_11, ft_11, 56, fy_11, rfl, by decide, in_11, fo_11, nm_11, gm_5 219 rfl rfl, rfl, rfl⟩
theorem fl_11_112 : FLk cn_11 112 11 52 (.array .long) true := ⟨cn_11, ft_11, 56, fy_11, rfl, by decide, in_11, fo_11, nm_11, gm_5 225 rfl rfl, rfl, rfl⟩
theorem fl_11_115 : FLk cn_11 115 11 53 (.array .int) true := ⟨cn_11, ft_11, 56, fy_11, rfl, by decide, in_11, fo_11, nm_11, gm_5 226 rfl rfl, rfl, rfl⟩
theorem fl_11_118 : FLk cn_11 118 11 54 (.int) false := ⟨cn_11, ft_11, 56, fy_11, rfl, by decide, in_11, fo_11, nm_11, gm_5 227 rfl rfl, rfl, rfl⟩
theorem fl_11_182 : FLk cn_11 182 11 13 (.int) false := ⟨cn_11, ft_11, 56, fy_11, rfl, by decide, in_11, fo_11, nm_11, gm_5 186 rfl rfl, rfl, rfl⟩
theorem fl_11_185 : FLk cn_11 185 11 6 (.int) false := ⟨cn_11, ft_11, 56, fy_11, rfl, by decide, in_11, fo_11, nm_11, gm_5 179 rfl rfl, rfl, rfl⟩
theorem fl_11_188 : FLk cn_11 188 11 18 (.int) false := ⟨cn_11, ft_11, 56, fy_11, rfl, by decide, in_11, fo_11, nm_11, gm_5 191 rfl rfl, rfl, rfl⟩
theorem fl_11_201 : FLk cn_11 201 11 21 (.int) false := ⟨cn_11, ft_11, 56, fy_11, rfl, by decide, in_11, fo_11, nm_11, gm_5 194 rfl rfl, rfl, rfl⟩
theorem fl_11_208 : FLk cn_11 208 11 19 (.int) false := ⟨cn_11, ft_11, 56, fy_11, rfl, by decide, in_11, fo_11, nm_11, gm_5 192 rfl rfl, rfl, rfl⟩
theorem fl_11_217 : FLk cn_11 217 11 20 (.int) false := ⟨cn_11, ft_11, 56, fy_11, rfl, by decide, in_11, fo_11, nm_11, gm_5 193 rfl rfl, rfl, rfl⟩
theorem fl_11_234 : FLk cn_11 234 11 10 (.boolean) false := ⟨cn_11, ft_11, 56, fy_11, rfl, by decide, in_11, fo_11, nm_11, gm_5 183 rfl rfl, rfl, rfl⟩
theorem fl_11_260 : FLk cn_11 260 11 8 (.int) false := ⟨cn_11, ft_11, 56, fy_11, rfl, by decide, in_11, fo_11, nm_11, gm_5 181 rfl rfl, rfl, rfl⟩
theorem fl_11_263 : FLk cn_11 263 11 9 (.int) false := ⟨cn_11, ft_11, 56, fy_11, rfl, by decide, in_11, fo_11, nm_11, gm_5 182 rfl rfl, rfl, rfl⟩
theorem fl_11_288 : FLk cn_11 288 11 23 (.int) false := ⟨cn_11, ft_11, 56, fy_11, rfl, by decide, in_11, fo_11, nm_11, gm_5 196 rfl rfl, rfl, rfl⟩
theorem fl_11_291 : FLk cn_11 291 11 22 (.int) false := ⟨cn_11, ft_11, 56, fy_11, rfl, by decide, in_11, fo_11, nm_11, gm_5 195 rfl rfl, rfl, rfl⟩
theorem fl_11_301 : FLk cn_11 301 11 24 (.boolean) false := ⟨cn_11, ft_11, 56, fy_11, rfl, by decide, in_11, fo_11, nm_11, gm_5 197 rfl rfl, rfl, rfl⟩
theorem fl_11_321 : FLk cn_11 321 11 25 (.boolean) false := ⟨cn_11, ft_11, 56, fy_11, rfl, by decide, in_11, fo_11, nm_11, gm_5 198 rfl rfl, rfl, rfl⟩
theorem fl_11_327 : FLk cn_11 327 11 27 (.int) false := ⟨cn_11, ft_11, 56, fy_11, rfl, by decide, in_11, fo_11, nm_11, gm_5 200 rfl rfl, rfl, rfl⟩
theorem fl_11_330 : FLk cn_11 330 11 28 (.int) false := ⟨cn_11, ft_11, 56, fy_11, rfl, by decide, in_11, fo_11, nm_11, gm_5 201 rfl rfl, rfl, rfl⟩
theorem fl_11_397 : FLk cn_11 397 11 35 (.int) false := ⟨cn_11, ft_11, 56, fy_11, rfl, by decide, in_11, fo_11, nm_11, gm_5 208 rfl rfl, rfl, rfl⟩
theorem fl_11_400 : FLk cn_11 400 11 36 (.int) false := ⟨cn_11, ft_11, 56, fy_11, rfl, by decide, in_11, fo_11, nm_11, gm_5 209 rfl rfl, rfl, rfl⟩
theorem fl_11_458 : FLk cn_11 458 11 47 (.int) false := ⟨cn_11, ft_11, 56, fy_11, rfl, by decide, in_11, fo_11, nm_11, gm_5 220 rfl rfl, rfl, rfl⟩
theorem fl_11_464 : FLk cn_11 464 11 49 (.int) false := ⟨cn_11, ft_11, 56, fy_11, rfl, by decide, in_11, fo_11, nm_11, gm_5 222 rfl rfl, rfl, rfl⟩
theorem fl_11_467 : FLk cn_11 467 11 50 (.boolean) false := ⟨cn_11, ft_11, 56, fy_11, rfl, by decide, in_11, fo_11, nm_11, gm_5 223 rfl rfl, rfl, rfl⟩
theorem fl_11_470 : FLk cn_11 470 11 48 (.int) false := ⟨cn_11, ft_11, 56, fy_11, rfl, by decide, in_11, fo_11, nm_11, gm_5 221 rfl rfl, rfl, rfl⟩
theorem fl_11_473 : FLk cn_11 473 11 51 (.boolean) false := ⟨cn_11, ft_11, 56, fy_11, rfl, by decide, in_11, fo_11, nm_11, gm_5 224 rfl rfl, rfl, rfl⟩
theorem fl_11_491 : FLk cn_11 491 11 55 (.int) false := ⟨cn_11, ft_11, 56, fy_11, rfl, by decide, in_11, fo_11, nm_11, gm_5 228 rfl rfl, rfl, rfl⟩
theorem ml_10_115 : SLk cn_10 115 ⟨"SteamNations", "canBeSitter", "(IIII)Z"⟩ prog_1_method_49_code 4 (some .boolean) 4 := ⟨gm_2 150 rfl rfl, gm_2 151 rfl rfl, gm_1 1 rfl rfl, gm_2 152 rfl rfl, ⟨by decide, by decide, by decide +kernel⟩, by decide⟩
theorem ml_10_119 : VLk cn_10 119 ⟨"SteamNations", "answer", "(I)I"⟩ prog_1_method_40_code 2 (some .int) 10 1 := ⟨rfl, gm_2 156 rfl rfl, gm_2 158 rfl rfl, gw_mem 0 (by decide +kernel) rfl, gm_1 1 rfl rfl, gm_2 159 rfl rfl, ⟨by decide, by decide, by decide +kernel⟩, by decide⟩
theorem ml_10_129 : VLk cn_10 129 ⟨"SteamNations$Past", "clear", "()V"⟩ prog_6_method_2_code 1 none 4 0 := ⟨rfl, gm_2 160 rfl rfl, gm_2 161 rfl rfl, gm_2 162 rfl rfl, gm_1 3 rfl rfl, gm_2 163 rfl rfl, ⟨by decide, by decide, by decide +kernel⟩, by decide⟩
theorem ml_10_132 : VLk cn_10 132 ⟨"SteamNations$Room", "add", "(IIII)I"⟩ prog_8_method_3_code 6 (some .int) 6 4 := ⟨rfl, gm_2 164 rfl rfl, gm_2 165 rfl rfl, gm_2 166 rfl rfl, gm_1 4 rfl rfl, gm_2 167 rfl rfl, ⟨by decide, by decide, by decide +kernel⟩, by decide⟩
theorem ml_10_136 : VLk cn_10 136 ⟨"SteamNations", "answerChanged", "(I)I"⟩ prog_1_method_41_code 2 (some .int) 10 1 := ⟨rfl, gm_2 168 rfl rfl, gm_2 170 rfl rfl, gw_mem 1 (by decide +kernel) rfl, gm_1 1 rfl rfl, gm_2 171 rfl rfl, ⟨by decide, by decide, by decide +kernel⟩, by decide⟩
theorem ml_10_139 : VLk cn_10 139 ⟨"SteamNations$Room", "has", "(I)Z"⟩ prog_8_method_4_code 2 (some .boolean) 6 1 := ⟨rfl, gm_2 180 rfl rfl, gm_2 181 rfl rfl, gm_2 182 rfl rfl, gm_1 4 rfl rfl, gm_2 183 rfl rfl, ⟨by decide, by decide, by decide +kernel⟩, by decide⟩
theorem ml_10_152 : VLk cn_10 152 ⟨"SteamNations$Room", "nationOf", "(I)I"⟩ prog_8_method_8_code 4 (some .int) 6 1 := ⟨rfl, gm_2 184 rfl rfl, gm_2 185 rfl rfl, gm_2 186 rfl rfl, gm_1 4 rfl rfl, gm_2 187 rfl rfl, ⟨by decide, by decide, by decide +kernel⟩, by decide⟩
theorem ml_10_155 : VLk cn_10 155 ⟨"SteamNations$Room", "isInside", "(I)Z"⟩ prog_8_method_5_code 2 (some .boolean) 6 1 := ⟨rfl, gm_2 188 rfl rfl, gm_2 189 rfl rfl, gm_2 190 rfl rfl, gm_1 4 rfl rfl, gm_2 191 rfl rfl, ⟨by decide, by decide, by decide +kernel⟩, by decide⟩
theorem ml_10_158 : VLk cn_10 158 ⟨"SteamNations$House", "inForce", "()LSteamNations$Text;"⟩ prog_3_method_5_code 1 (some (.object "SteamNations$Text")) 1 0 := ⟨rfl, gm_2 193 rfl rfl, gm_2 194 rfl rfl, gm_2 195 rfl rfl, gm_1 8 rfl rfl, gm_2 196 rfl rfl, ⟨by decide, by decide, by decide +kernel⟩, by decide⟩
theorem ml_10_162 : VLk cn_10 162 ⟨"SteamNations$Steam", "anyHolds", "(LSteamNations$Room;LSteamNations$Text;II)Z"⟩ prog_10_method_2_code 6 (some .boolean) 8 4 := ⟨rfl, gm_2 205 rfl rfl, gm_2 206 rfl rfl, gm_2 207 rfl rfl, gm_1 9 rfl rfl, gm_2 208 rfl rfl, ⟨by decide, by decide, by decide +kernel⟩, by decide⟩
theorem ml_10_166 : SLk cn_10 166 ⟨"SteamNations", "oneIf", "(Z)I"⟩ prog_1_method_54_code 1 (some .int) 1 := ⟨gm_3 3 rfl rfl, gm_3 4 rfl rfl, gm_1 1 rfl rfl, gm_3 5 rfl rfl, ⟨by decide, by decide, by decide +kernel⟩, by decide⟩
theorem ml_10_170 : VLk cn_10 170 ⟨"SteamNations$Room", "whoAt", "(I)I"⟩ prog_8_method_6_code 3 (some .int) 6 1 := ⟨rfl, gm_3 10 rfl rfl, gm_3 11 rfl rfl, gm_3 12 rfl rfl, gm_1 4 rfl rfl, gm_3 13 rfl rfl, ⟨by decide, by decide, by decide +kernel⟩, by decide⟩
theorem ml_10_173 : SLk cn_10 173 ⟨"SteamNations", "areBeside", "(II)Z"⟩ prog_1_method_53_code 4 (some .boolean) 2 := ⟨gm_3 18 rfl rfl, gm_3 19 rfl rfl, gm_1 1 rfl rfl, gm_3 20 rfl rfl, ⟨by decide, by decide, by decide +kernel⟩, by decide⟩
theorem ml_10_177 : VLk cn_10 177 ⟨"SteamNations$Steam", "partsTold", "(LSteamNations$Room;LSteamNations$Text;II)I"⟩ prog_10_method_3_code 7 (some .int) 8 4 := ⟨rfl, gm_3 24 rfl rfl, gm_3 25 rfl rfl, gm_3 26 rfl rfl, gm_1 9 rfl rfl, gm_3 27 rfl rfl, ⟨by decide, by decide, by decide +kernel⟩, by decide⟩
theorem ml_10_190 : VLk cn_10 190 ⟨"SteamNations", "putFour", "(I)V"⟩ prog_1_method_42_code 3 none 10 1 := ⟨rfl, gm_3 41 rfl rfl, gm_3 43 rfl rfl, gw_mem 4 (by decide +kernel) rfl, gm_1 1 rfl rfl, gm_3 44 rfl rfl, ⟨by decide, by decide, by decide +kernel⟩, by decide⟩
theorem ml_10_197 : VLk cn_10 197 ⟨"SteamNations", "sitterFromTape", "(I)Z"⟩ prog_1_method_44_code 2 (some .boolean) 10 1 := ⟨rfl, gm_3 53 rfl rfl, gm_3 55 rfl rfl, gw_mem 5 (by decide +kernel) rfl, gm_1 1 rfl rfl, gm_3 56 rfl rfl, ⟨by decide, by decide, by decide +kernel⟩, by decide⟩
theorem ml_10_200 : VLk cn_10 200 ⟨"SteamNations", "takeTape", "()I"⟩ prog_1_method_43_code 2 (some .int) 10 0 := ⟨rfl, gm_3 65 rfl rfl, gm_3 67 rfl rfl, gw_mem 6 (by decide +kernel) rfl, gm_1 1 rfl rfl, gm_3 68 rfl rfl, ⟨by decide, by decide, by decide +kernel⟩, by decide⟩
theorem ml_10_207 : VLk cn_10 207 ⟨"SteamNations$Reader", "read", "([IIZ)LSteamNations$Text;"⟩ prog_7_method_2_code 6 (some (.object "SteamNations$Text")) 5 3 := ⟨rfl, gm_3 69 rfl rfl, gm_3 70 rfl rfl, gm_3 71 rfl rfl, gm_1 2 rfl rfl, gm_3 72 rfl rfl, ⟨by decide, by decide, by decide +kernel⟩, by decide⟩
theorem ml_10_214 : VLk cn_10 214 ⟨"SteamNations$House", "addLaw", "(LSteamNations$Text;)I"⟩ prog_3_method_6_code 2 (some .int) 1 1 := ⟨rfl, gm_4 5 rfl rfl, gm_4 6 rfl rfl, gm_4 7 rfl rfl, gm_1 8 rfl rfl, gm_4 8 rfl rfl, ⟨by decide, by decide, by decide +kernel⟩, by decide⟩
theorem ml_10_221 : VLk cn_10 221 ⟨"SteamNations$Errands", "run", "(LSteamNations$Text;)I"⟩ prog_2_method_2_code 4 (some .int) 0 1 := ⟨rfl, gm_4 14 rfl rfl, gm_4 15 rfl rfl, gm_4 16 rfl rfl, gm_1 11 rfl rfl, gm_4 17 rfl rfl, ⟨by decide, by decide, by decide +kernel⟩, by decide⟩
theorem ml_10_224 : VLk cn_10 224 ⟨"SteamNations$House", "hasLaw", "(I)Z"⟩ prog_3_method_3_code 2 (some .boolean) 1 1 := ⟨rfl, gm_4 110 rfl rfl, gm_2 202 rfl rfl, gm_2 203 rfl rfl, gm_1 8 rfl rfl, gm_2 204 rfl rfl, ⟨by decide, by decide, by decide +kernel⟩, by decide⟩
theorem ml_10_230 : VLk cn_10 230 ⟨"SteamNations$Moves", "toSeat", "(II)I"⟩ prog_5_method_2_code 4 (some .int) 3 2 := ⟨rfl, gm_4 115 rfl rfl, gm_4 54 rfl rfl, gm_4 55 rfl rfl, gm_1 10 rfl rfl, gm_4 56 rfl rfl, ⟨by decide, by decide, by decide +kernel⟩, by decide⟩
theorem ml_10_234 : VLk cn_10 234 ⟨"SteamNations$Moves", "toSendOut", "(I)I"⟩ prog_5_method_3_code 4 (some .int) 3 1 := ⟨rfl, gm_4 120 rfl rfl, gm_4 66 rfl rfl, gm_4 67 rfl rfl, gm_1 10 rfl rfl, gm_4 68 rfl rfl, ⟨by decide, by decide, by decide +kernel⟩, by decide⟩
theorem ml_10_237 : VLk cn_10 237 ⟨"SteamNations$Moves", "toExchange", "(II)I"⟩ prog_5_method_4_code 5 (some .int) 3 2 := ⟨rfl, gm_4 125 rfl rfl, gm_4 71 rfl rfl, gm_4 72 rfl rfl, gm_1 10 rfl rfl, gm_4 73 rfl rfl, ⟨by decide, by decide, by decide +kernel⟩, by decide⟩
theorem ml_10_240 : VLk cn_10 240 ⟨"SteamNations$Moves", "toPassMinute", "()I"⟩ prog_5_method_5_code 2 (some .int) 3 0 := ⟨rfl, gm_4 130 rfl rfl, gm_4 75 rfl rfl, gm_4 76 rfl rfl, gm_1 10 rfl rfl, gm_4 77 rfl rfl, ⟨by decide, by decide, by decide +kernel⟩, by decide⟩
theorem ml_10_243 : VLk cn_10 243 ⟨"SteamNations$Past", "bringBack", "(LSteamNations$Room;)I"⟩ prog_6_method_5_code 3 (some .int) 4 1 := ⟨rfl, gm_4 135 rfl rfl, gm_4 136 rfl rfl, gm_4 137 rfl rfl, gm_1 3 rfl rfl, gm_4 138 rfl rfl, ⟨by decide, by decide, by decide +kernel⟩, by decide⟩
theorem ml_10_247 : SLk cn_10 247 ⟨"SteamNations", "isFarMinute", "(I)Z"⟩ prog_1_method_51_code 1 (some .boolean) 1 := ⟨gm_4 143 rfl rfl, gm_4 144 rfl rfl, gm_1 1 rfl rfl, gm_4 145 rfl rfl, ⟨by decide, by decide, by decide +kernel⟩, by decide⟩
theorem ml_10_250 : VLk cn_10 250 ⟨"SteamNations", "playOnPaper", "(LSteamNations$Text;I)V"⟩ prog_1_method_45_code 4 none 10 2 := ⟨rfl, gm_4 146 rfl rfl, gm_4 148 rfl rfl, gw_mem 35 (by decide +kernel) rfl, gm_1 1 rfl rfl, gm_4 149 rfl rfl, ⟨by decide, by decide, by decide +kernel⟩, by decide⟩
theorem ml_10_254 : VLk cn_10 254 ⟨"SteamNations$Room", "copyFrom", "(LSteamNations$Room;)V"⟩ prog_8_method_2_code 2 none 6 1 := ⟨rfl, gm_4 150 rfl rfl, gm_4 19 rfl rfl, gm_4 20 rfl rfl, gm_1 4 rfl rfl, gm_4 21 rfl rfl, ⟨by decide, by decide, by decide +kernel⟩, by decide⟩
theorem ml_10_258 : VLk cn_10 258 ⟨"SteamNations$Steam", "passMinute", "(LSteamNations$Room;LSteamNations$Text;)V"⟩ prog_10_method_4_code 9 none 8 2 := ⟨rfl, gm_4 151 rfl rfl, gm_4 80 rfl rfl, gm_4 81 rfl rfl, gm_1 9 rfl rfl, gm_4 82 rfl rfl, ⟨by decide, by decide, by decide +kernel⟩, by decide⟩
theorem ml_10_262 : VLk cn_10 262 ⟨"SteamNations$Room", "insideAreOne", "()Z"⟩ prog_8_method_12_code 3 (some .boolean) 6 0 := ⟨rfl, gm_4 160 rfl rfl, gm_4 161 rfl rfl, gm_4 162 rfl rfl, gm_1 4 rfl rfl, gm_4 163 rfl rfl, ⟨by decide, by decide, by decide +kernel⟩, by decide⟩
theorem ml_10_266 : SLk cn_10 266 ⟨"SteamNations", "isNearMinute", "(I)Z"⟩ prog_1_method_52_code 1 (some .boolean) 1 := ⟨gm_4 168 rfl rfl, gm_4 169 rfl rfl, gm_1 1 rfl rfl, gm_4 170 rfl rfl, ⟨by decide, by decide, by decide +kernel⟩, by decide⟩
theorem ml_10_269 : VLk cn_10 269 ⟨"SteamNations$Seatings", "lookAhead", "(LSteamNations$Room;LSteamNations$Text;I)V"⟩ prog_9_method_3_code 6 none 7 3 := ⟨rfl, gm_4 171 rfl rfl, gm_4 172 rfl rfl, gm_4 173 rfl rfl, gm_1 12 rfl rfl, gm_4 174 rfl rfl, ⟨by decide, by decide, by decide +kernel⟩, by decide⟩
theorem ml_10_273 : VLk cn_10 273 ⟨"SteamNations$Seatings", "bestAt", "(LSteamNations$Room;I)I"⟩ prog_9_method_6_code 7 (some .int) 7 2 := ⟨rfl, gm_4 199 rfl rfl, gm_4 200 rfl rfl, gm_4 201 rfl rfl, gm_1 12 rfl rfl, gm_4 202 rfl rfl, ⟨by decide, by decide, by decide +kernel⟩, by decide⟩
theorem ml_10_277 : VLk cn_10 277 ⟨"SteamNations$Seatings", "contentedIn", "(LSteamNations$Room;II)I"⟩ prog_9_method_5_code 6 (some .int) 7 3 := ⟨rfl, gm_4 212 rfl rfl, gm_4 204 rfl rfl, gm_4 205 rfl rfl, gm_1 12 rfl rfl, gm_4 206 rfl rfl, ⟨by decide, by decide, by decide +kernel⟩, by decide⟩
theorem ml_10_281 : VLk cn_10 281 ⟨"SteamNations$Seatings", "seatIn", "(II)I"⟩ prog_9_method_4_code 3 (some .int) 7 2 := ⟨rfl, gm_4 213 rfl rfl, gm_4 214 rfl rfl, gm_4 215 rfl rfl, gm_1 12 rfl rfl, gm_4 216 rfl rfl, ⟨by decide, by decide, by decide +kernel⟩, by decide⟩
theorem ml_10_284 : VLk cn_10 284 ⟨"SteamNations$Seatings", "measure", "(LSteamNations$Room;I)V"⟩ prog_9_method_7_code 6 none 7 2 := ⟨rfl, gm_4 228 rfl rfl, gm_4 229 rfl rfl, gm_4 230 rfl rfl, gm_1 12 rfl rfl, gm_4 231 rfl rfl, ⟨by decide, by decide, by decide +kernel⟩, by decide⟩
theorem ml_10_288 : VLk cn_10 288 ⟨"SteamNations$Seatings", "fewestExchanges", "(LSteamNations$Room;)I"⟩ prog_9_method_8_code 2 (some .int) 7 1 := ⟨rfl, gm_5 9 rfl rfl, gm_5 10 rfl rfl, gm_5 11 rfl rfl, gm_1 12 rfl rfl, gm_5 12 rfl rfl, ⟨by decide, by decide, by decide +kernel⟩, by decide⟩
theorem ml_10_291 : VLk cn_10 291 ⟨"SteamNations$Seatings", "firstExchange", "(LSteamNations$Room;)I"⟩ prog_9_method_9_code 8 (some .int) 7 1 := ⟨rfl, gm_5 17 rfl rfl, gm_5 18 rfl rfl, gm_5 19 rfl rfl, gm_1 12 rfl rfl, gm_5 20 rfl rfl, ⟨by decide, by decide, by decide +kernel⟩, by decide⟩
theorem ml_10_297 : VLk cn_10 297 ⟨"SteamNations$House", "addSight", "(III)I"⟩ prog_3_method_7_code 4 (some .int) 1 3 := ⟨rfl, gm_5 25 rfl rfl, gm_5 26 rfl rfl, gm_5 27 rfl rfl, gm_1 8 rfl rfl, gm_5 28 rfl rfl, ⟨by decide, by decide, by decide +kernel⟩, by decide⟩
theorem ml_10_301 : VLk cn_10 301 ⟨"SteamNations$House", "latestSight", "()I"⟩ prog_3_method_11_code 3 (some .int) 1 0 := ⟨rfl, gm_5 37 rfl rfl, gm_5 38 rfl rfl, gm_5 39 rfl rfl, gm_1 8 rfl rfl, gm_5 40 rfl rfl, ⟨by decide, by decide, by decide +kernel⟩, by decide⟩
theorem ml_10_304 : VLk cn_10 304 ⟨"SteamNations$Seatings", "countSat", "(LSteamNations$House;)I"⟩ prog_9_method_10_code 4 (some .int) 7 1 := ⟨rfl, gm_5 46 rfl rfl, gm_5 47 rfl rfl, gm_5 48 rfl rfl, gm_1 12 rfl rfl, gm_5 49 rfl rfl, ⟨by decide, by decide, by decide +kernel⟩, by decide⟩
theorem ml_10_308 : VLk cn_10 308 ⟨"SteamNations$Seatings", "findSat", "(LSteamNations$House;I)I"⟩ prog_9_method_11_code 5 (some .int) 7 2 := ⟨rfl, gm_5 63 rfl rfl, gm_5 64 rfl rfl, gm_5 65 rfl rfl, gm_1 12 rfl rfl, gm_5 66 rfl rfl, ⟨by decide, by decide, by decide +kernel⟩, by decide⟩
theorem ml_10_312 : SLk cn_10 312 ⟨"java/lang/Math", "max", "(II)I"⟩ prog_16_method_65_code 2 (some .int) 2 := ⟨gm_5 71 rfl rfl, gm_2 231 rfl rfl, gm_1 14 rfl rfl, gm_2 232 rfl rfl, ⟨by decide, by decide, by decide +kernel⟩, by decide⟩
theorem ml_10_317 : VLk cn_10 317 ⟨"SteamNations$Seatings", "mostAlike", "(LSteamNations$House;II)I"⟩ prog_9_method_12_code 6 (some .int) 7 3 := ⟨rfl, gm_5 72 rfl rfl, gm_5 73 rfl rfl, gm_5 74 rfl rfl, gm_1 12 rfl rfl, gm_5 75 rfl rfl, ⟨by decide, by decide, by decide +kernel⟩, by decide⟩
theorem ml_10_321 : SLk cn_10 321 ⟨"java/lang/Integer", "bitCount", "(I)I"⟩ prog_15_method_49_code 1 (some .int) 1 := ⟨gm_5 82 rfl rfl, gm_5 83 rfl rfl, gm_1 20 rfl rfl, gm_5 84 rfl rfl, ⟨by decide, by decide, by decide +kernel⟩, by decide⟩
theorem ml_10_326 : VLk cn_10 326 ⟨"SteamNations$Room", "isTreaty", "(II)Z"⟩ prog_8_method_13_code 6 (some .boolean) 6 2 := ⟨rfl, gm_5 88 rfl rfl, gm_5 89 rfl rfl, gm_5 90 rfl rfl, gm_1 4 rfl rfl, gm_5 91 rfl rfl, ⟨by decide, by decide, by decide +kernel⟩, by decide⟩
theorem ml_10_329 : SLk cn_10 329 ⟨"java/util/Arrays", "fill", "([II)V"⟩ prog_21_method_103_code 4 none 2 := ⟨gm_5 101 rfl rfl, gm_4 84 rfl rfl, gm_1 19 rfl rfl, gm_4 85 rfl rfl, ⟨by decide, by decide, by decide +kernel⟩, by decide⟩
theorem ml_10_336 : VLk cn_10 336 ⟨"SteamNations", "spreadDrops", "(LSteamNations$Room;)V"⟩ prog_1_method_46_code 5 none 10 1 := ⟨rfl, gm_5 103 rfl rfl, gm_5 105 rfl rfl, gw_mem 48 (by decide +kernel) rfl, gm_1 1 rfl rfl, gm_5 106 rfl rfl, ⟨by decide, by decide, by decide +kernel⟩, by decide⟩
theorem ml_10_341 : SLk cn_10 341 ⟨"java/util/Arrays", "fill", "([JJ)V"⟩ prog_21_method_101_code 5 none 2 := ⟨gm_5 113 rfl rfl, gm_5 114 rfl rfl, gm_1 19 rfl rfl, gm_5 115 rfl rfl, ⟨by decide, by decide, by decide +kernel⟩, by decide⟩
theorem ml_10_348 : VLk cn_10 348 ⟨"SteamNations$House", "lawAt", "(I)LSteamNations$Text;"⟩ prog_3_method_4_code 2 (some (.object "SteamNations$Text")) 1 1 := ⟨rfl, gm_5 122 rfl rfl, gm_2 198 rfl rfl, gm_2 199 rfl rfl, gm_1 8 rfl rfl, gm_2 200 rfl rfl, ⟨by decide, by decide, by decide +kernel⟩, by decide⟩
theorem ml_10_352 : VLk cn_10 352 ⟨"SteamNations$Room", "contented", "()I"⟩ prog_8_method_10_code 3 (some .int) 6 0 := ⟨rfl, gm_5 123 rfl rfl, gm_4 38 rfl rfl, gm_4 39 rfl rfl, gm_1 4 rfl rfl, gm_4 40 rfl rfl, ⟨by decide, by decide, by decide +kernel⟩, by decide⟩
theorem ml_10_355 : SLk cn_10 355 ⟨"SteamNations", "nextDraw", "(I)I"⟩ prog_1_method_48_code 1 (some .int) 1 := ⟨gm_5 128 rfl rfl, gm_5 129 rfl rfl, gm_1 1 rfl rfl, gm_5 130 rfl rfl, ⟨by decide, by decide, by decide +kernel⟩, by decide⟩
theorem ml_10_358 : VLk cn_10 358 ⟨"SteamNations", "moveByDraw", "(III)V"⟩ prog_1_method_47_code 4 none 10 3 := ⟨rfl, gm_5 132 rfl rfl, gm_5 134 rfl rfl, gw_mem 49 (by decide +kernel) rfl, gm_1 1 rfl rfl, gm_5 135 rfl rfl, ⟨by decide, by decide, by decide +kernel⟩, by decide⟩
theorem ml_10_362 : VLk cn_10 362 ⟨"SteamNations$House", "copyFrom", "(LSteamNations$House;)V"⟩ prog_3_method_2_code 3 none 1 1 := ⟨rfl, gm_5 144 rfl rfl, gm_5 145 rfl rfl, gm_5 146 rfl rfl, gm_1 8 rfl rfl, gm_5 147 rfl rfl, ⟨by decide, by decide, by decide +kernel⟩, by decide⟩
theorem ml_10_365 : VLk cn_10 365 ⟨"SteamNations$Room", "countInside", "()I"⟩ prog_8_method_7_code 3 (some .int) 6 0 := ⟨rfl, gm_5 158 rfl rfl, gm_4 33 rfl rfl, gm_4 34 rfl rfl, gm_1 4 rfl rfl, gm_4 35 rfl rfl, ⟨by decide, by decide, by decide +kernel⟩, by decide⟩
theorem ml_10_371 : VLk cn_10 371 ⟨"SteamNations$Room", "allPartsOf", "(I)I"⟩ prog_8_method_11_code 4 (some .int) 6 1 := ⟨rfl, gm_5 159 rfl rfl, gm_5 160 rfl rfl, gm_5 161 rfl rfl, gm_1 4 rfl rfl, gm_5 162 rfl rfl, ⟨by decide, by decide, by decide +kernel⟩, by decide⟩
theorem ml_10_377 : VLk cn_10 377 ⟨"SteamNations$Seatings", "makeStale", "()V"⟩ prog_9_method_2_code 1 none 7 0 := ⟨rfl, gm_2 172 rfl rfl, gm_2 173 rfl rfl, gm_2 174 rfl rfl, gm_1 12 rfl rfl, gm_2 175 rfl rfl, ⟨by decide, by decide, by decide +kernel⟩, by decide⟩
theorem ml_10_387 : SLk cn_10 387 ⟨"SteamNations", "canBeParts", "(I)Z"⟩ prog_1_method_50_code 1 (some .boolean) 1 := ⟨gm_2 153 rfl rfl, gm_2 154 rfl rfl, gm_1 1 rfl rfl, gm_2 155 rfl rfl, ⟨by decide, by decide, by decide +kernel⟩, by decide⟩
theorem ml_10_390 : SLk cn_10 390 ⟨"java/lang/Math", "abs", "(I)I"⟩ prog_16_method_59_code 1 (some .int) 1 := ⟨gm_3 21 rfl rfl, gm_3 22 rfl rfl, gm_1 14 rfl rfl, gm_3 23 rfl rfl, ⟨by decide, by decide, by decide +kernel⟩, by decide⟩
theorem ml_0_48 : VLk cn_0 48 ⟨"SteamNations$Room", "copyFrom", "(LSteamNations$Room;)V"⟩ prog_8_method_2_code 2 none 6 1 := ⟨rfl, gm_4 18 rfl rfl, gm_4 19 rfl rfl, gm_4 20 rfl rfl, gm_1 4 rfl rfl, gm_4 21 rfl rfl, ⟨by decide, by decide, by decide +kernel⟩, by decide⟩
theorem ml_0_55 : VLk cn_0 55 ⟨"SteamNations$Past", "copyFrom", "(LSteamNations$Past;)V"⟩ prog_6_method_3_code 2 none 4 1 := ⟨rfl, gm_4 22 rfl rfl, gm_4 23 rfl rfl, gm_4 24 rfl rfl, gm_1 3 rfl rfl, gm_4 25 rfl rfl, ⟨by decide, by decide, by decide +kernel⟩, by decide⟩
theorem ml_0_69 : VLk cn_0 69 ⟨"SteamNations$Text", "markOf", "(II)I"⟩ prog_11_method_3_code 4 (some .int) 9 2 := ⟨rfl, gm_4 27 rfl rfl, gm_2 219 rfl rfl, gm_2 220 rfl rfl, gm_1 6 rfl rfl, gm_2 221 rfl rfl, ⟨by decide, by decide, by decide +kernel⟩, by decide⟩
theorem ml_0_73 : VLk cn_0 73 ⟨"SteamNations$Errands", "sayWords", "(LSteamNations$Room;)V"⟩ prog_2_method_4_code 3 none 0 1 := ⟨rfl, gm_4 28 rfl rfl, gm_4 30 rfl rfl, gw_mem 31 (by decide +kernel) rfl, gm_1 11 rfl rfl, gm_4 31 rfl rfl, ⟨by decide, by decide, by decide +kernel⟩, by decide⟩
theorem ml_0_76 : VLk cn_0 76 ⟨"SteamNations$Machine", "workOut", "(LSteamNations$Text;II)I"⟩ prog_4_method_2_code 9 (some .int) 2 3 := ⟨rfl, gm_4 47 rfl rfl, gm_2 223 rfl rfl, gm_2 224 rfl rfl, gm_1 7 rfl rfl, gm_2 225 rfl rfl, ⟨by decide, by decide, by decide +kernel⟩, by decide⟩
theorem ml_0_82 : VLk cn_0 82 ⟨"SteamNations$Errands", "canMove", "(LSteamNations$Text;I)Z"⟩ prog_2_method_3_code 6 (some .boolean) 0 2 := ⟨rfl, gm_4 48 rfl rfl, gm_4 50 rfl rfl, gw_mem 32 (by decide +kernel) rfl, gm_1 11 rfl rfl, gm_4 51 rfl rfl, ⟨by decide, by decide, by decide +kernel⟩, by decide⟩
theorem ml_0_87 : VLk cn_0 87 ⟨"SteamNations$Moves", "toSeat", "(II)I"⟩ prog_5_method_2_code 4 (some .int) 3 2 := ⟨rfl, gm_4 53 rfl rfl, gm_4 54 rfl rfl, gm_4 55 rfl rfl, gm_1 10 rfl rfl, gm_4 56 rfl rfl, ⟨by decide, by decide, by decide +kernel⟩, by decide⟩
theorem ml_0_90 : VLk cn_0 90 ⟨"SteamNations$Moves", "toSendOut", "(I)I"⟩ prog_5_method_3_code 4 (some .int) 3 1 := ⟨rfl, gm_4 65 rfl rfl, gm_4 66 rfl rfl, gm_4 67 rfl rfl, gm_1 10 rfl rfl, gm_4 68 rfl rfl, ⟨by decide, by decide, by decide +kernel⟩, by decide⟩
theorem ml_0_94 : VLk cn_0 94 ⟨"SteamNations$Moves", "toExchange", "(II)I"⟩ prog_5_method_4_code 5 (some .int) 3 2 := ⟨rfl, gm_4 70 rfl rfl, gm_4 71 rfl rfl, gm_4 72 rfl rfl, gm_1 10 rfl rfl, gm_4 73 rfl rfl, ⟨by decide, by decide, by decide +kernel⟩, by decide⟩
theorem ml_0_97 : VLk cn_0 97 ⟨"SteamNations$Moves", "toPassMinute", "()I"⟩ prog_5_method_5_code 2 (some .int) 3 0 := ⟨rfl, gm_4 74 rfl rfl, gm_4 75 rfl rfl, gm_4 76 rfl rfl, gm_1 10 rfl rfl, gm_4 77 rfl rfl, ⟨by decide, by decide, by decide +kernel⟩, by decide⟩
theorem ml_0_110 : VLk cn_0 110 ⟨"SteamNations$Room", "countInside", "()I"⟩ prog_8_method_7_code 3 (some .int) 6 0 := ⟨rfl, gm_4 32 rfl rfl, gm_4 33 rfl rfl, gm_4 34 rfl rfl, gm_1 4 rfl rfl, gm_4 35 rfl rfl, ⟨by decide, by decide, by decide +kernel⟩, by decide⟩
theorem ml_0_113 : VLk cn_0 113 ⟨"SteamNations$Room", "contented", "()I"⟩ prog_8_method_10_code 3 (some .int) 6 0 := ⟨rfl, gm_4 37 rfl rfl, gm_4 38 rfl rfl, gm_4 39 rfl rfl, gm_1 4 rfl rfl, gm_4 40 rfl rfl, ⟨by decide, by decide, by decide +kernel⟩, by decide⟩
theorem ml_0_116 : VLk cn_0 116 ⟨"SteamNations$Room", "nationOf", "(I)I"⟩ prog_8_method_8_code 4 (some .int) 6 1 := ⟨rfl, gm_4 42 rfl rfl, gm_2 185 rfl rfl, gm_2 186 rfl rfl, gm_1 4 rfl rfl, gm_2 187 rfl rfl, ⟨by decide, by decide, by decide +kernel⟩, by decide⟩
theorem ml_0_119 : VLk cn_0 119 ⟨"SteamNations$Room", "muchOf", "(I)I"⟩ prog_8_method_9_code 2 (some .int) 6 1 := ⟨rfl, gm_4 43 rfl rfl, gm_4 44 rfl rfl, gm_4 45 rfl rfl, gm_1 4 rfl rfl, gm_4 46 rfl rfl, ⟨by decide, by decide, by decide +kernel⟩, by decide⟩
theorem ml_1_36 : VLk cn_1 36 ⟨"SteamNations$Room", "copyFrom", "(LSteamNations$Room;)V"⟩ prog_8_method_2_code 2 none 6 1 := ⟨rfl, gm_5 148 rfl rfl, gm_4 19 rfl rfl, gm_4 20 rfl rfl, gm_1 4 rfl rfl, gm_4 21 rfl rfl, ⟨by decide, by decide, by decide +kernel⟩, by decide⟩
theorem ml_1_52 : VLk cn_1 52 ⟨"SteamNations$House", "hasLaw", "(I)Z"⟩ prog_3_method_3_code 2 (some .boolean) 1 1 := ⟨rfl, gm_2 201 rfl rfl, gm_2 202 rfl rfl, gm_2 203 rfl rfl, gm_1 8 rfl rfl, gm_2 204 rfl rfl, ⟨by decide, by decide, by decide +kernel⟩, by decide⟩
theorem ml_1_56 : VLk cn_1 56 ⟨"SteamNations$House", "lawAt", "(I)LSteamNations$Text;"⟩ prog_3_method_4_code 2 (some (.object "SteamNations$Text")) 1 1 := ⟨rfl, gm_2 197 rfl rfl, gm_2 198 rfl rfl, gm_2 199 rfl rfl, gm_1 8 rfl rfl, gm_2 200 rfl rfl, ⟨by decide, by decide, by decide +kernel⟩, by decide⟩
theorem ml_1_60 : VLk cn_1 60 ⟨"SteamNations$House", "sightMinutes", "(I)I"⟩ prog_3_method_9_code 2 (some .int) 1 1 := ⟨rfl, gm_5 41 rfl rfl, gm_5 42 rfl rfl, gm_5 43 rfl rfl, gm_1 8 rfl rfl, gm_5 44 rfl rfl, ⟨by decide, by decide, by decide +kernel⟩, by decide⟩
theorem ml_1_64 : SLk cn_1 64 ⟨"java/lang/Math", "max", "(II)I"⟩ prog_16_method_65_code 2 (some .int) 2 := ⟨gm_5 45 rfl rfl, gm_2 231 rfl rfl, gm_1 14 rfl rfl, gm_2 232 rfl rfl, ⟨by decide, by decide, by decide +kernel⟩, by decide⟩
theorem ml_2_22 : VLk cn_2 22 ⟨"SteamNations$Text", "markOf", "(II)I"⟩ prog_11_method_3_code 4 (some .int) 9 2 := ⟨rfl, gm_2 226 rfl rfl, gm_2 219 rfl rfl, gm_2 220 rfl rfl, gm_1 6 rfl rfl, gm_2 221 rfl rfl, ⟨by decide, by decide, by decide +kernel⟩, by decide⟩
theorem ml_2_31 : SLk cn_2 31 ⟨"java/lang/Math", "min", "(II)I"⟩ prog_16_method_69_code 2 (some .int) 2 := ⟨gm_2 227 rfl rfl, gm_2 228 rfl rfl, gm_1 14 rfl rfl, gm_2 229 rfl rfl, ⟨by decide, by decide, by decide +kernel⟩, by decide⟩
theorem ml_2_36 : SLk cn_2 36 ⟨"java/lang/Math", "max", "(II)I"⟩ prog_16_method_65_code 2 (some .int) 2 := ⟨gm_2 230 rfl rfl, gm_2 231 rfl rfl, gm_1 14 rfl rfl, gm_2 232 rfl rfl, ⟨by decide, by decide, by decide +kernel⟩, by decide⟩
theorem ml_2_40 : VLk cn_2 40 ⟨"SteamNations$Machine", "wordAt", "(I)I"⟩ prog_4_method_3_code 2 (some .int) 2 1 := ⟨rfl, gm_2 234 rfl rfl, gm_2 236 rfl rfl, gw_mem 3 (by decide +kernel) rfl, gm_1 7 rfl rfl, gm_2 237 rfl rfl, ⟨by decide, by decide, by decide +kernel⟩, by decide⟩
theorem ml_2_44 : SLk cn_2 44 ⟨"SteamNations$Machine", "join", "(III)I"⟩ prog_4_method_4_code 5 (some .int) 3 := ⟨gm_2 238 rfl rfl, gm_2 239 rfl rfl, gm_1 7 rfl rfl, gm_3 0 rfl rfl, ⟨by decide, by decide, by decide +kernel⟩, by decide⟩
theorem ml_3_29 : VLk cn_3 29 ⟨"SteamNations$Room", "has", "(I)Z"⟩ prog_8_method_4_code 2 (some .boolean) 6 1 := ⟨rfl, gm_4 57 rfl rfl, gm_2 181 rfl rfl, gm_2 182 rfl rfl, gm_1 4 rfl rfl, gm_2 183 rfl rfl, ⟨by decide, by decide, by decide +kernel⟩, by decide⟩
theorem ml_3_35 : VLk cn_3 35 ⟨"SteamNations$Room", "whoAt", "(I)I"⟩ prog_8_method_6_code 3 (some .int) 6 1 := ⟨rfl, gm_4 58 rfl rfl, gm_3 11 rfl rfl, gm_3 12 rfl rfl, gm_1 4 rfl rfl, gm_3 13 rfl rfl, ⟨by decide, by decide, by decide +kernel⟩, by decide⟩
theorem ml_3_39 : VLk cn_3 39 ⟨"SteamNations$Past", "keep", "(ILSteamNations$Room;)V"⟩ prog_6_method_4_code 4 none 4 2 := ⟨rfl, gm_4 59 rfl rfl, gm_4 60 rfl rfl, gm_4 61 rfl rfl, gm_1 3 rfl rfl, gm_4 62 rfl rfl, ⟨by decide, by decide, by decide +kernel⟩, by decide⟩
theorem ml_3_49 : VLk cn_3 49 ⟨"SteamNations$Room", "countInside", "()I"⟩ prog_8_method_7_code 3 (some .int) 6 0 := ⟨rfl, gm_4 64 rfl rfl, gm_4 33 rfl rfl, gm_4 34 rfl rfl, gm_1 4 rfl rfl, gm_4 35 rfl rfl, ⟨by decide, by decide, by decide +kernel⟩, by decide⟩
theorem ml_3_53 : VLk cn_3 53 ⟨"SteamNations$Room", "isInside", "(I)Z"⟩ prog_8_method_5_code 2 (some .boolean) 6 1 := ⟨rfl, gm_4 69 rfl rfl, gm_2 189 rfl rfl, gm_2 190 rfl rfl, gm_1 4 rfl rfl, gm_2 191 rfl rfl, ⟨by decide, by decide, by decide +kernel⟩, by decide⟩
theorem ml_3_59 : VLk cn_3 59 ⟨"SteamNations$House", "inForce", "()LSteamNations$Text;"⟩ prog_3_method_5_code 1 (some (.object "SteamNations$Text")) 1 0 := ⟨rfl, gm_4 78 rfl rfl, gm_2 194 rfl rfl, gm_2 195 rfl rfl, gm_1 8 rfl rfl, gm_2 196 rfl rfl, ⟨by decide, by decide, by decide +kernel⟩, by decide⟩
theorem ml_3_63 : VLk cn_3 63 ⟨"SteamNations$Steam", "passMinute", "(LSteamNations$Room;LSteamNations$Text;)V"⟩ prog_10_method_4_code 9 none 8 2 := ⟨rfl, gm_4 79 rfl rfl, gm_4 80 rfl rfl, gm_4 81 rfl rfl, gm_1 9 rfl rfl, gm_4 82 rfl rfl, ⟨by decide, by decide, by decide +kernel⟩, by decide⟩
theorem ml_4_39 : SLk cn_4 39 ⟨"java/lang/Math", "min", "(II)I"⟩ prog_16_method_69_code 2 (some .int) 2 := ⟨gm_4 63 rfl rfl, gm_2 228 rfl rfl, gm_1 14 rfl rfl, gm_2 229 rfl rfl, ⟨by decide, by decide, by decide +kernel⟩, by decide⟩
theorem ml_5_45 : SLk cn_5 45 ⟨"java/lang/Math", "min", "(II)I"⟩ prog_16_method_69_code 2 (some .int) 2 := ⟨gm_3 73 rfl rfl, gm_2 228 rfl rfl, gm_1 14 rfl rfl, gm_2 229 rfl rfl, ⟨by decide, by decide, by decide +kernel⟩, by decide⟩
theorem ml_5_51 : VLk cn_5 51 ⟨"SteamNations$Reader", "cut", "([II)V"⟩ prog_7_method_3_code 6 none 5 2 := ⟨rfl, gm_3 74 rfl rfl, gm_3 76 rfl rfl, gw_mem 7 (by decide +kernel) rfl, gm_1 2 rfl rfl, gm_3 77 rfl rfl, ⟨by decide, by decide, by decide +kernel⟩, by decide⟩
theorem ml_5_58 : VLk cn_5 58 ⟨"SteamNations$Reader", "goOn", "()V"⟩ prog_7_method_26_code 1 none 5 0 := ⟨rfl, gm_3 139 rfl rfl, gm_3 141 rfl rfl, gw_mem 8 (by decide +kernel) rfl, gm_1 2 rfl rfl, gm_3 142 rfl rfl, ⟨by decide, by decide, by decide +kernel⟩, by decide⟩
theorem ml_5_61 : VLk cn_5 61 ⟨"SteamNations$Reader", "readOrder", "(I)Z"⟩ prog_7_method_9_code 3 (some .boolean) 5 1 := ⟨rfl, gm_3 143 rfl rfl, gm_3 145 rfl rfl, gw_mem 9 (by decide +kernel) rfl, gm_1 2 rfl rfl, gm_3 146 rfl rfl, ⟨by decide, by decide, by decide +kernel⟩, by decide⟩
theorem ml_5_65 : VLk cn_5 65 ⟨"SteamNations$Reader", "readRule", "(I)Z"⟩ prog_7_method_8_code 4 (some .boolean) 5 1 := ⟨rfl, gm_3 203 rfl rfl, gm_3 205 rfl rfl, gw_mem 24 (by decide +kernel) rfl, gm_1 2 rfl rfl, gm_3 206 rfl rfl, ⟨by decide, by decide, by decide +kernel⟩, by decide⟩
theorem ml_5_68 : VLk cn_5 68 ⟨"SteamNations$Reader", "readIf", "(I)Z"⟩ prog_7_method_11_code 3 (some .boolean) 5 1 := ⟨rfl, gm_3 207 rfl rfl, gm_3 209 rfl rfl, gw_mem 25 (by decide +kernel) rfl, gm_1 2 rfl rfl, gm_3 210 rfl rfl, ⟨by decide, by decide, by decide +kernel⟩, by decide⟩
theorem ml_5_74 : SLk cn_5 74 ⟨"java/util/Arrays", "copyOf", "([II)[I"⟩ prog_21_method_123_code 3 (some (.array .int)) 2 := ⟨gm_3 232 rfl rfl, gm_3 233 rfl rfl, gm_1 19 rfl rfl, gm_3 234 rfl rfl, ⟨by decide, by decide, by decide +kernel⟩, by decide⟩
theorem ml_5_83 : VLk cn_5 83 ⟨"SteamNations$Reader", "takeSign", "(C)Z"⟩ prog_7_method_22_code 2 (some .boolean) 5 1 := ⟨rfl, gm_3 175 rfl rfl, gm_3 177 rfl rfl, gw_mem 17 (by decide +kernel) rfl, gm_1 2 rfl rfl, gm_3 178 rfl rfl, ⟨by decide, by decide, by decide +kernel⟩, by decide⟩
theorem ml_5_87 : VLk cn_5 87 ⟨"SteamNations$Reader", "wrong", "()Z"⟩ prog_7_method_27_code 1 (some .boolean) 5 0 := ⟨rfl, gm_3 147 rfl rfl, gm_3 149 rfl rfl, gw_mem 10 (by decide +kernel) rfl, gm_1 2 rfl rfl, gm_3 150 rfl rfl, ⟨by decide, by decide, by decide +kernel⟩, by decide⟩
theorem ml_5_91 : SLk cn_5 91 ⟨"SteamNations$Reader", "isLetter", "(I)Z"⟩ prog_7_method_4_code 1 (some .boolean) 1 := ⟨gm_3 78 rfl rfl, gm_3 79 rfl rfl, gm_1 2 rfl rfl, gm_3 80 rfl rfl, ⟨by decide, by decide, by decide +kernel⟩, by decide⟩
theorem ml_5_94 : SLk cn_5 94 ⟨"SteamNations$Reader", "wordNumber", "([III)I"⟩ prog_7_method_6_code 8 (some .int) 3 := ⟨gm_3 81 rfl rfl, gm_3 82 rfl rfl, gm_1 2 rfl rfl, gm_3 83 rfl rfl, ⟨by decide, by decide, by decide +kernel⟩, by decide⟩
theorem ml_5_98 : SLk cn_5 98 ⟨"SteamNations$Reader", "isDigit", "(I)Z"⟩ prog_7_method_5_code 1 (some .boolean) 1 := ⟨gm_3 133 rfl rfl, gm_3 134 rfl rfl, gm_1 2 rfl rfl, gm_3 135 rfl rfl, ⟨by decide, by decide, by decide +kernel⟩, by decide⟩
theorem ml_5_101 : SLk cn_5 101 ⟨"SteamNations$Reader", "valueOf", "([III)I"⟩ prog_7_method_7_code 5 (some .int) 3 := ⟨gm_3 136 rfl rfl, gm_3 137 rfl rfl, gm_1 2 rfl rfl, gm_3 138 rfl rfl, ⟨by decide, by decide, by decide +kernel⟩, by decide⟩
theorem ml_5_116 : VLk cn_5 116 ⟨"SteamNations$Reader", "mark", "(III)V"⟩ prog_7_method_30_code 5 none 5 3 := ⟨rfl, gm_3 151 rfl rfl, gm_3 153 rfl rfl, gw_mem 11 (by decide +kernel) rfl, gm_1 2 rfl rfl, gm_3 154 rfl rfl, ⟨by decide, by decide, by decide +kernel⟩, by decide⟩
theorem ml_5_120 : VLk cn_5 120 ⟨"SteamNations$Reader", "readSum", "(I)Z"⟩ prog_7_method_16_code 5 (some .boolean) 5 1 := ⟨rfl, gm_3 155 rfl rfl, gm_3 157 rfl rfl, gw_mem 12 (by decide +kernel) rfl, gm_1 2 rfl rfl, gm_3 158 rfl rfl, ⟨by decide, by decide, by decide +kernel⟩, by decide⟩
theorem ml_5_123 : VLk cn_5 123 ⟨"SteamNations$Reader", "takeIf", "(I)Z"⟩ prog_7_method_23_code 2 (some .boolean) 5 1 := ⟨rfl, gm_3 195 rfl rfl, gm_3 197 rfl rfl, gw_mem 22 (by decide +kernel) rfl, gm_1 2 rfl rfl, gm_3 198 rfl rfl, ⟨by decide, by decide, by decide +kernel⟩, by decide⟩
theorem ml_5_126 : VLk cn_5 126 ⟨"SteamNations$Reader", "readTimes", "(I)Z"⟩ prog_7_method_10_code 3 (some .boolean) 5 1 := ⟨rfl, gm_3 199 rfl rfl, gm_3 201 rfl rfl, gw_mem 23 (by decide +kernel) rfl, gm_1 2 rfl rfl, gm_3 202 rfl rfl, ⟨by decide, by decide, by decide +kernel⟩, by decide⟩
theorem ml_5_129 : VLk cn_5 129 ⟨"SteamNations$Reader", "numberHere", "()I"⟩ prog_7_method_25_code 1 (some .int) 5 0 := ⟨rfl, gm_3 179 rfl rfl, gm_3 181 rfl rfl, gw_mem 18 (by decide +kernel) rfl, gm_1 2 rfl rfl, gm_3 182 rfl rfl, ⟨by decide, by decide, by decide +kernel⟩, by decide⟩
theorem ml_5_132 : VLk cn_5 132 ⟨"SteamNations$Reader", "readTest", "(I)Z"⟩ prog_7_method_12_code 5 (some .boolean) 5 1 := ⟨rfl, gm_3 211 rfl rfl, gm_3 213 rfl rfl, gw_mem 26 (by decide +kernel) rfl, gm_1 2 rfl rfl, gm_3 214 rfl rfl, ⟨by decide, by decide, by decide +kernel⟩, by decide⟩
theorem ml_5_135 : VLk cn_5 135 ⟨"SteamNations$Reader", "readBoth", "(I)Z"⟩ prog_7_method_13_code 5 (some .boolean) 5 1 := ⟨rfl, gm_3 215 rfl rfl, gm_3 217 rfl rfl, gw_mem 27 (by decide +kernel) rfl, gm_1 2 rfl rfl, gm_3 218 rfl rfl, ⟨by decide, by decide, by decide +kernel⟩, by decide⟩
theorem ml_5_138 : VLk cn_5 138 ⟨"SteamNations$Reader", "put", "(II)I"⟩ prog_7_method_28_code 3 (some .int) 5 2 := ⟨rfl, gm_3 187 rfl rfl, gm_3 189 rfl rfl, gw_mem 20 (by decide +kernel) rfl, gm_1 2 rfl rfl, gm_3 190 rfl rfl, ⟨by decide, by decide, by decide +kernel⟩, by decide⟩
theorem ml_5_141 : VLk cn_5 141 ⟨"SteamNations$Reader", "land", "(I)V"⟩ prog_7_method_29_code 2 none 5 1 := ⟨rfl, gm_3 227 rfl rfl, gm_3 229 rfl rfl, gw_mem 30 (by decide +kernel) rfl, gm_1 2 rfl rfl, gm_3 230 rfl rfl, ⟨by decide, by decide, by decide +kernel⟩, by decide⟩
theorem ml_5_145 : VLk cn_5 145 ⟨"SteamNations$Reader", "readPlain", "(I)Z"⟩ prog_7_method_14_code 4 (some .boolean) 5 1 := ⟨rfl, gm_3 219 rfl rfl, gm_3 221 rfl rfl, gw_mem 28 (by decide +kernel) rfl, gm_1 2 rfl rfl, gm_3 222 rfl rfl, ⟨by decide, by decide, by decide +kernel⟩, by decide⟩
theorem ml_5_148 : VLk cn_5 148 ⟨"SteamNations$Reader", "isSign", "(C)Z"⟩ prog_7_method_24_code 2 (some .boolean) 5 1 := ⟨rfl, gm_3 167 rfl rfl, gm_3 169 rfl rfl, gw_mem 15 (by decide +kernel) rfl, gm_1 2 rfl rfl, gm_3 170 rfl rfl, ⟨by decide, by decide, by decide +kernel⟩, by decide⟩
theorem ml_5_151 : VLk cn_5 151 ⟨"SteamNations$Reader", "canOpen", "(I)Z"⟩ prog_7_method_21_code 2 (some .boolean) 5 1 := ⟨rfl, gm_3 171 rfl rfl, gm_3 173 rfl rfl, gw_mem 16 (by decide +kernel) rfl, gm_1 2 rfl rfl, gm_3 174 rfl rfl, ⟨by decide, by decide, by decide +kernel⟩, by decide⟩
theorem ml_5_154 : VLk cn_5 154 ⟨"SteamNations$Reader", "readComparison", "(I)Z"⟩ prog_7_method_15_code 4 (some .boolean) 5 1 := ⟨rfl, gm_3 223 rfl rfl, gm_3 225 rfl rfl, gw_mem 29 (by decide +kernel) rfl, gm_1 2 rfl rfl, gm_3 226 rfl rfl, ⟨by decide, by decide, by decide +kernel⟩, by decide⟩
theorem ml_5_157 : VLk cn_5 157 ⟨"SteamNations$Reader", "readTerm", "(I)Z"⟩ prog_7_method_17_code 5 (some .boolean) 5 1 := ⟨rfl, gm_3 159 rfl rfl, gm_3 161 rfl rfl, gw_mem 13 (by decide +kernel) rfl, gm_1 2 rfl rfl, gm_3 162 rfl rfl, ⟨by decide, by decide, by decide +kernel⟩, by decide⟩
theorem ml_5_160 : VLk cn_5 160 ⟨"SteamNations$Reader", "readPart", "(I)Z"⟩ prog_7_method_18_code 3 (some .boolean) 5 1 := ⟨rfl, gm_3 163 rfl rfl, gm_3 165 rfl rfl, gw_mem 14 (by decide +kernel) rfl, gm_1 2 rfl rfl, gm_3 166 rfl rfl, ⟨by decide, by decide, by decide +kernel⟩, by decide⟩
theorem ml_5_163 : VLk cn_5 163 ⟨"SteamNations$Reader", "readOrdersWord", "()Z"⟩ prog_7_method_20_code 4 (some .boolean) 5 0 := ⟨rfl, gm_3 183 rfl rfl, gm_3 185 rfl rfl, gw_mem 19 (by decide +kernel) rfl, gm_1 2 rfl rfl, gm_3 186 rfl rfl, ⟨by decide, by decide, by decide +kernel⟩, by decide⟩
theorem ml_5_166 : VLk cn_5 166 ⟨"SteamNations$Reader", "readLawWord", "()Z"⟩ prog_7_method_19_code 1 (some .boolean) 5 0 := ⟨rfl, gm_3 191 rfl rfl, gm_3 193 rfl rfl, gw_mem 21 (by decide +kernel) rfl, gm_1 2 rfl rfl, gm_3 194 rfl rfl, ⟨by decide, by decide, by decide +kernel⟩, by decide⟩
theorem ml_6_37 : VLk cn_6 37 ⟨"SteamNations$Room", "has", "(I)Z"⟩ prog_8_method_4_code 2 (some .boolean) 6 1 := ⟨rfl, gm_2 192 rfl rfl, gm_2 181 rfl rfl, gm_2 182 rfl rfl, gm_1 4 rfl rfl, gm_2 183 rfl rfl, ⟨by decide, by decide, by decide +kernel⟩, by decide⟩
theorem ml_6_41 : NLk cn_6 41 ⟨"SteamNations", "oneIf", "(Z)I"⟩ prog_1_method_54_code 1 (some .int) 1 := ⟨by decide, gm_3 4 rfl rfl, gm_1 1 rfl rfl, gm_3 5 rfl rfl, ⟨by decide, by decide, by decide +kernel⟩, by decide⟩
theorem ml_6_45 : VLk cn_6 45 ⟨"SteamNations$Room", "nationOf", "(I)I"⟩ prog_8_method_8_code 4 (some .int) 6 1 := ⟨rfl, gm_4 41 rfl rfl, gm_2 185 rfl rfl, gm_2 186 rfl rfl, gm_1 4 rfl rfl, gm_2 187 rfl rfl, ⟨by decide, by decide, by decide +kernel⟩, by decide⟩
theorem ml_6_49 : VLk cn_6 49 ⟨"SteamNations$Room", "inCommon", "(II)I"⟩ prog_8_method_14_code 5 (some .int) 6 2 := ⟨rfl, gm_5 92 rfl rfl, gm_5 94 rfl rfl, gw_mem 47 (by decide +kernel) rfl, gm_1 4 rfl rfl, gm_5 95 rfl rfl, ⟨by decide, by decide, by decide +kernel⟩, by decide⟩
theorem ml_6_53 : SLk cn_6 53 ⟨"java/lang/Math", "min", "(II)I"⟩ prog_16_method_69_code 2 (some .int) 2 := ⟨gm_5 96 rfl rfl, gm_2 228 rfl rfl, gm_1 14 rfl rfl, gm_2 229 rfl rfl, ⟨by decide, by decide, by decide +kernel⟩, by decide⟩
theorem ml_7_51 : VLk cn_7 51 ⟨"SteamNations$Seatings", "listInside", "(LSteamNations$Room;)V"⟩ prog_9_method_14_code 4 none 7 1 := ⟨rfl, gm_4 175 rfl rfl, gm_4 177 rfl rfl, gw_mem 36 (by decide +kernel) rfl, gm_1 12 rfl rfl, gm_4 178 rfl rfl, ⟨by decide, by decide, by decide +kernel⟩, by decide⟩
theorem ml_7_55 : VLk cn_7 55 ⟨"SteamNations$Seatings", "playSeating", "(LSteamNations$Room;LSteamNations$Text;II)V"⟩ prog_9_method_15_code 8 none 7 4 := ⟨rfl, gm_4 181 rfl rfl, gm_4 183 rfl rfl, gw_mem 37 (by decide +kernel) rfl, gm_1 12 rfl rfl, gm_4 184 rfl rfl, ⟨by decide, by decide, by decide +kernel⟩, by decide⟩
theorem ml_7_59 : VLk cn_7 59 ⟨"SteamNations$Seatings", "toNextOrder", "()Z"⟩ prog_9_method_16_code 5 (some .boolean) 7 0 := ⟨rfl, gm_4 191 rfl rfl, gm_4 193 rfl rfl, gw_mem 38 (by decide +kernel) rfl, gm_1 12 rfl rfl, gm_4 194 rfl rfl, ⟨by decide, by decide, by decide +kernel⟩, by decide⟩
theorem ml_7_63 : VLk cn_7 63 ⟨"SteamNations$Seatings", "isSeating", "(I)Z"⟩ prog_9_method_26_code 2 (some .boolean) 7 1 := ⟨rfl, gm_4 217 rfl rfl, gm_4 219 rfl rfl, gw_mem 41 (by decide +kernel) rfl, gm_1 12 rfl rfl, gm_4 220 rfl rfl, ⟨by decide, by decide, by decide +kernel⟩, by decide⟩
theorem ml_7_67 : SLk cn_7 67 ⟨"SteamNations$Seatings", "seatOfRow", "(II)I"⟩ prog_9_method_24_code 3 (some .int) 2 := ⟨gm_4 221 rfl rfl, gm_4 222 rfl rfl, gm_1 12 rfl rfl, gm_4 223 rfl rfl, ⟨by decide, by decide, by decide +kernel⟩, by decide⟩
theorem ml_7_74 : VLk cn_7 74 ⟨"SteamNations$Seatings", "nationIn", "(III)I"⟩ prog_9_method_25_code 5 (some .int) 7 3 := ⟨rfl, gm_4 207 rfl rfl, gm_4 209 rfl rfl, gw_mem 40 (by decide +kernel) rfl, gm_1 12 rfl rfl, gm_4 210 rfl rfl, ⟨by decide, by decide, by decide +kernel⟩, by decide⟩
theorem ml_7_81 : NLk cn_7 81 ⟨"SteamNations", "oneIf", "(Z)I"⟩ prog_1_method_54_code 1 (some .int) 1 := ⟨by decide, gm_3 4 rfl rfl, gm_1 1 rfl rfl, gm_3 5 rfl rfl, ⟨by decide, by decide, by decide +kernel⟩, by decide⟩
theorem ml_7_85 : VLk cn_7 85 ⟨"SteamNations$Seatings", "contentedIn", "(LSteamNations$Room;II)I"⟩ prog_9_method_5_code 6 (some .int) 7 3 := ⟨rfl, gm_4 203 rfl rfl, gm_4 204 rfl rfl, gm_4 205 rfl rfl, gm_1 12 rfl rfl, gm_4 206 rfl rfl, ⟨by decide, by decide, by decide +kernel⟩, by decide⟩
theorem ml_7_89 : VLk cn_7 89 ⟨"SteamNations$Seatings", "bestAt", "(LSteamNations$Room;I)I"⟩ prog_9_method_6_code 7 (some .int) 7 2 := ⟨rfl, gm_4 232 rfl rfl, gm_4 200 rfl rfl, gm_4 201 rfl rfl, gm_1 12 rfl rfl, gm_4 202 rfl rfl, ⟨by decide, by decide, by decide +kernel⟩, by decide⟩
theorem ml_7_93 : VLk cn_7 93 ⟨"SteamNations$Seatings", "reachFrom", "(II)I"⟩ prog_9_method_18_code 7 (some .int) 7 2 := ⟨rfl, gm_4 233 rfl rfl, gm_4 235 rfl rfl, gw_mem 42 (by decide +kernel) rfl, gm_1 12 rfl rfl, gm_4 236 rfl rfl, ⟨by decide, by decide, by decide +kernel⟩, by decide⟩
theorem ml_7_96 : SLk cn_7 96 ⟨"SteamNations$Seatings", "rowOf", "(LSteamNations$Room;)I"⟩ prog_9_method_23_code 3 (some .int) 1 := ⟨gm_4 186 rfl rfl, gm_4 187 rfl rfl, gm_1 12 rfl rfl, gm_4 188 rfl rfl, ⟨by decide, by decide, by decide +kernel⟩, by decide⟩
theorem ml_7_100 : VLk cn_7 100 ⟨"SteamNations$Seatings", "farOf", "(I)I"⟩ prog_9_method_21_code 3 (some .int) 7 1 := ⟨rfl, gm_5 13 rfl rfl, gm_5 15 rfl rfl, gw_mem 45 (by decide +kernel) rfl, gm_1 12 rfl rfl, gm_5 16 rfl rfl, ⟨by decide, by decide, by decide +kernel⟩, by decide⟩
theorem ml_7_107 : VLk cn_7 107 ⟨"SteamNations$Seatings", "canExchange", "(III)Z"⟩ prog_9_method_19_code 4 (some .boolean) 7 3 := ⟨rfl, gm_4 237 rfl rfl, gm_4 239 rfl rfl, gw_mem 43 (by decide +kernel) rfl, gm_1 12 rfl rfl, gm_5 0 rfl rfl, ⟨by decide, by decide, by decide +kernel⟩, by decide⟩
theorem ml_7_111 : SLk cn_7 111 ⟨"SteamNations$Seatings", "exchanged", "(III)I"⟩ prog_9_method_20_code 4 (some .int) 3 := ⟨gm_5 2 rfl rfl, gm_5 3 rfl rfl, gm_1 12 rfl rfl, gm_5 4 rfl rfl, ⟨by decide, by decide, by decide +kernel⟩, by decide⟩
theorem ml_7_114 : VLk cn_7 114 ⟨"SteamNations$Seatings", "fits", "(LSteamNations$House;I)Z"⟩ prog_9_method_13_code 4 (some .boolean) 7 2 := ⟨rfl, gm_5 50 rfl rfl, gm_5 52 rfl rfl, gw_mem 46 (by decide +kernel) rfl, gm_1 12 rfl rfl, gm_5 53 rfl rfl, ⟨by decide, by decide, by decide +kernel⟩, by decide⟩
theorem ml_7_118 : SLk cn_7 118 ⟨"java/util/Arrays", "fill", "([II)V"⟩ prog_21_method_103_code 4 none 2 := ⟨gm_5 76 rfl rfl, gm_4 84 rfl rfl, gm_1 19 rfl rfl, gm_4 85 rfl rfl, ⟨by decide, by decide, by decide +kernel⟩, by decide⟩
theorem ml_7_124 : SLk cn_7 124 ⟨"java/lang/Math", "max", "(II)I"⟩ prog_16_method_65_code 2 (some .int) 2 := ⟨gm_5 77 rfl rfl, gm_2 231 rfl rfl, gm_1 14 rfl rfl, gm_2 232 rfl rfl, ⟨by decide, by decide, by decide +kernel⟩, by decide⟩
theorem ml_7_134 : VLk cn_7 134 ⟨"SteamNations$House", "sightMinutes", "(I)I"⟩ prog_3_method_9_code 2 (some .int) 1 1 := ⟨rfl, gm_5 54 rfl rfl, gm_5 42 rfl rfl, gm_5 43 rfl rfl, gm_1 8 rfl rfl, gm_5 44 rfl rfl, ⟨by decide, by decide, by decide +kernel⟩, by decide⟩
theorem ml_7_137 : VLk cn_7 137 ⟨"SteamNations$House", "sightSitter", "(I)I"⟩ prog_3_method_8_code 2 (some .int) 1 1 := ⟨rfl, gm_5 55 rfl rfl, gm_5 56 rfl rfl, gm_5 57 rfl rfl, gm_1 8 rfl rfl, gm_5 58 rfl rfl, ⟨by decide, by decide, by decide +kernel⟩, by decide⟩
theorem ml_7_140 : VLk cn_7 140 ⟨"SteamNations$House", "sightNation", "(I)I"⟩ prog_3_method_10_code 2 (some .int) 1 1 := ⟨rfl, gm_5 59 rfl rfl, gm_5 60 rfl rfl, gm_5 61 rfl rfl, gm_1 8 rfl rfl, gm_5 62 rfl rfl, ⟨by decide, by decide, by decide +kernel⟩, by decide⟩
theorem ml_7_143 : VLk cn_7 143 ⟨"SteamNations$Room", "isInside", "(I)Z"⟩ prog_8_method_5_code 2 (some .boolean) 6 1 := ⟨rfl, gm_4 179 rfl rfl, gm_2 189 rfl rfl, gm_2 190 rfl rfl, gm_1 4 rfl rfl, gm_2 191 rfl rfl, ⟨by decide, by decide, by decide +kernel⟩, by decide⟩
theorem ml_7_146 : VLk cn_7 146 ⟨"SteamNations$Room", "whoAt", "(I)I"⟩ prog_8_method_6_code 3 (some .int) 6 1 := ⟨rfl, gm_4 180 rfl rfl, gm_3 11 rfl rfl, gm_3 12 rfl rfl, gm_1 4 rfl rfl, gm_3 13 rfl rfl, ⟨by decide, by decide, by decide +kernel⟩, by decide⟩
theorem ml_7_149 : VLk cn_7 149 ⟨"SteamNations$Room", "copyFrom", "(LSteamNations$Room;)V"⟩ prog_8_method_2_code 2 none 6 1 := ⟨rfl, gm_4 185 rfl rfl, gm_4 19 rfl rfl, gm_4 20 rfl rfl, gm_1 4 rfl rfl, gm_4 21 rfl rfl, ⟨by decide, by decide, by decide +kernel⟩, by decide⟩
theorem ml_7_155 : VLk cn_7 155 ⟨"SteamNations$Steam", "passMinute", "(LSteamNations$Room;LSteamNations$Text;)V"⟩ prog_10_method_4_code 9 none 8 2 := ⟨rfl, gm_4 189 rfl rfl, gm_4 80 rfl rfl, gm_4 81 rfl rfl, gm_1 9 rfl rfl, gm_4 82 rfl rfl, ⟨by decide, by decide, by decide +kernel⟩, by decide⟩
theorem ml_7_161 : VLk cn_7 161 ⟨"SteamNations$Room", "nationOf", "(I)I"⟩ prog_8_method_8_code 4 (some .int) 6 1 := ⟨rfl, gm_4 190 rfl rfl, gm_2 185 rfl rfl, gm_2 186 rfl rfl, gm_1 4 rfl rfl, gm_2 187 rfl rfl, ⟨by decide, by decide, by decide +kernel⟩, by decide⟩
theorem ml_7_164 : VLk cn_7 164 ⟨"SteamNations$Seatings", "exchangePlaces", "(II)V"⟩ prog_9_method_17_code 4 none 7 2 := ⟨rfl, gm_4 195 rfl rfl, gm_4 197 rfl rfl, gw_mem 39 (by decide +kernel) rfl, gm_1 12 rfl rfl, gm_4 198 rfl rfl, ⟨by decide, by decide, by decide +kernel⟩, by decide⟩
theorem ml_7_168 : VLk cn_7 168 ⟨"SteamNations$Seatings", "rankOf", "(I)I"⟩ prog_9_method_22_code 6 (some .int) 7 1 := ⟨rfl, gm_5 5 rfl rfl, gm_5 7 rfl rfl, gw_mem 44 (by decide +kernel) rfl, gm_1 12 rfl rfl, gm_5 8 rfl rfl, ⟨by decide, by decide, by decide +kernel⟩, by decide⟩
theorem ml_7_171 : NLk cn_7 171 ⟨"SteamNations", "areBeside", "(II)Z"⟩ prog_1_method_53_code 4 (some .boolean) 2 := ⟨by decide, gm_3 19 rfl rfl, gm_1 1 rfl rfl, gm_3 20 rfl rfl, ⟨by decide, by decide, by decide +kernel⟩, by decide⟩
theorem ml_8_22 : VLk cn_8 22 ⟨"SteamNations$Text", "hasKind", "(I)Z"⟩ prog_11_method_2_code 2 (some .boolean) 9 1 := ⟨rfl, gm_2 209 rfl rfl, gm_2 210 rfl rfl, gm_2 211 rfl rfl, gm_1 6 rfl rfl, gm_2 212 rfl rfl, ⟨by decide, by decide, by decide +kernel⟩, by decide⟩
theorem ml_8_28 : VLk cn_8 28 ⟨"SteamNations$Steam", "sayWords", "(LSteamNations$Room;II)V"⟩ prog_10_method_7_code 5 none 8 3 := ⟨rfl, gm_2 213 rfl rfl, gm_2 215 rfl rfl, gw_mem 2 (by decide +kernel) rfl, gm_1 9 rfl rfl, gm_2 216 rfl rfl, ⟨by decide, by decide, by decide +kernel⟩, by decide⟩
theorem ml_8_36 : VLk cn_8 36 ⟨"SteamNations$Text", "markOf", "(II)I"⟩ prog_11_method_3_code 4 (some .int) 9 2 := ⟨rfl, gm_2 218 rfl rfl, gm_2 219 rfl rfl, gm_2 220 rfl rfl, gm_1 6 rfl rfl, gm_2 221 rfl rfl, ⟨by decide, by decide, by decide +kernel⟩, by decide⟩
theorem ml_8_40 : VLk cn_8 40 ⟨"SteamNations$Machine", "workOut", "(LSteamNations$Text;II)I"⟩ prog_4_method_2_code 9 (some .int) 2 3 := ⟨rfl, gm_2 222 rfl rfl, gm_2 223 rfl rfl, gm_2 224 rfl rfl, gm_1 7 rfl rfl, gm_2 225 rfl rfl, ⟨by decide, by decide, by decide +kernel⟩, by decide⟩
theorem ml_8_48 : VLk cn_8 48 ⟨"SteamNations$Room", "nationOf", "(I)I"⟩ prog_8_method_8_code 4 (some .int) 6 1 := ⟨rfl, gm_2 217 rfl rfl, gm_2 185 rfl rfl, gm_2 186 rfl rfl, gm_1 4 rfl rfl, gm_2 187 rfl rfl, ⟨by decide, by decide, by decide +kernel⟩, by decide⟩
theorem ml_8_55 : SLk cn_8 55 ⟨"java/lang/Math", "min", "(II)I"⟩ prog_16_method_69_code 2 (some .int) 2 := ⟨gm_3 29 rfl rfl, gm_2 228 rfl rfl, gm_1 14 rfl rfl, gm_2 229 rfl rfl, ⟨by decide, by decide, by decide +kernel⟩, by decide⟩
theorem ml_8_60 : SLk cn_8 60 ⟨"java/lang/Math", "max", "(II)I"⟩ prog_16_method_65_code 2 (some .int) 2 := ⟨gm_3 30 rfl rfl, gm_2 231 rfl rfl, gm_1 14 rfl rfl, gm_2 232 rfl rfl, ⟨by decide, by decide, by decide +kernel⟩, by decide⟩
theorem ml_8_63 : SLk cn_8 63 ⟨"java/util/Arrays", "fill", "([II)V"⟩ prog_21_method_103_code 4 none 2 := ⟨gm_4 83 rfl rfl, gm_4 84 rfl rfl, gm_1 19 rfl rfl, gm_4 85 rfl rfl, ⟨by decide, by decide, by decide +kernel⟩, by decide⟩
theorem ml_8_69 : VLk cn_8 69 ⟨"SteamNations$Steam", "seeWho", "(LSteamNations$Room;)V"⟩ prog_10_method_5_code 4 none 8 1 := ⟨rfl, gm_4 86 rfl rfl, gm_4 88 rfl rfl, gw_mem 33 (by decide +kernel) rfl, gm_1 9 rfl rfl, gm_4 89 rfl rfl, ⟨by decide, by decide, by decide +kernel⟩, by decide⟩
theorem ml_8_79 : VLk cn_8 79 ⟨"SteamNations$Steam", "anyHolds", "(LSteamNations$Room;LSteamNations$Text;II)Z"⟩ prog_10_method_2_code 6 (some .boolean) 8 4 := ⟨rfl, gm_4 90 rfl rfl, gm_2 206 rfl rfl, gm_2 207 rfl rfl, gm_1 9 rfl rfl, gm_2 208 rfl rfl, ⟨by decide, by decide, by decide +kernel⟩, by decide⟩
theorem ml_8_86 : VLk cn_8 86 ⟨"SteamNations$Steam", "whoBeside", "(II)I"⟩ prog_10_method_6_code 4 (some .int) 8 2 := ⟨rfl, gm_4 91 rfl rfl, gm_4 93 rfl rfl, gw_mem 34 (by decide +kernel) rfl, gm_1 9 rfl rfl, gm_4 94 rfl rfl, ⟨by decide, by decide, by decide +kernel⟩, by decide⟩
theorem ml_8_89 : VLk cn_8 89 ⟨"SteamNations$Steam", "partsTold", "(LSteamNations$Room;LSteamNations$Text;II)I"⟩ prog_10_method_3_code 7 (some .int) 8 4 := ⟨rfl, gm_4 97 rfl rfl, gm_3 25 rfl rfl, gm_3 26 rfl rfl, gm_1 9 rfl rfl, gm_3 27 rfl rfl, ⟨by decide, by decide, by decide +kernel⟩, by decide⟩
theorem ml_L_13 : VLk "SteamNationsLaw" 13 ⟨"SteamNations", "sitter", "(IIII)I"⟩ prog_1_method_2_code 5 (some .int) 10 4 := ⟨rfl, gm_2 146 rfl rfl, gm_2 147 rfl rfl, gm_2 148 rfl rfl, gm_1 1 rfl rfl, gm_2 149 rfl rfl, ⟨by decide, by decide, by decide +kernel⟩, by decide⟩
theorem ml_L_17 : VLk "SteamNationsLaw" 17 ⟨"SteamNationsModel", "sitter", "(IIII)I"⟩ prog_13_method_26_code 5 (some .int) 11 4 := ⟨rfl, gm_6 125 rfl rfl, gm_6 126 rfl rfl, gm_6 127 rfl rfl, gm_1 13 rfl rfl, gm_6 128 rfl rfl, ⟨by decide, by decide, by decide +kernel⟩, by decide⟩
theorem ml_L_18 : VLk "SteamNationsLaw" 18 ⟨"SteamNations", "of", "(II)I"⟩ prog_1_method_3_code 4 (some .int) 10 2 := ⟨rfl, gm_2 176 rfl rfl, gm_2 177 rfl rfl, gm_2 178 rfl rfl, gm_1 1 rfl rfl, gm_2 179 rfl rfl, ⟨by decide, by decide, by decide +kernel⟩, by decide⟩
theorem ml_L_22 : VLk "SteamNationsLaw" 22 ⟨"SteamNationsModel", "of", "(II)I"⟩ prog_13_method_27_code 3 (some .int) 11 2 := ⟨rfl, gm_6 143 rfl rfl, gm_6 144 rfl rfl, gm_6 145 rfl rfl, gm_1 13 rfl rfl, gm_6 146 rfl rfl, ⟨by decide, by decide, by decide +kernel⟩, by decide⟩
theorem ml_L_23 : VLk "SteamNationsLaw" 23 ⟨"SteamNations", "at", "(I)I"⟩ prog_1_method_4_code 2 (some .int) 10 1 := ⟨rfl, gm_3 6 rfl rfl, gm_3 7 rfl rfl, gm_3 8 rfl rfl, gm_1 1 rfl rfl, gm_3 9 rfl rfl, ⟨by decide, by decide, by decide +kernel⟩, by decide⟩
theorem ml_L_27 : VLk "SteamNationsLaw" 27 ⟨"SteamNationsModel", "at", "(I)I"⟩ prog_13_method_28_code 2 (some .int) 11 1 := ⟨rfl, gm_6 234 rfl rfl, gm_6 235 rfl rfl, gm_6 236 rfl rfl, gm_1 13 rfl rfl, gm_6 237 rfl rfl, ⟨by decide, by decide, by decide +kernel⟩, by decide⟩
theorem ml_L_28 : VLk "SteamNationsLaw" 28 ⟨"SteamNations", "asks", "(II)I"⟩ prog_1_method_5_code 4 (some .int) 10 2 := ⟨rfl, gm_3 14 rfl rfl, gm_3 15 rfl rfl, gm_3 16 rfl rfl, gm_1 1 rfl rfl, gm_3 17 rfl rfl, ⟨by decide, by decide, by decide +kernel⟩, by decide⟩
theorem ml_L_31 : VLk "SteamNationsLaw" 31 ⟨"SteamNationsModel", "asks", "(II)I"⟩ prog_13_method_29_code 3 (some .int) 11 2 := ⟨rfl, gm_7 5 rfl rfl, gm_7 6 rfl rfl, gm_7 7 rfl rfl, gm_1 13 rfl rfl, gm_7 8 rfl rfl, ⟨by decide, by decide, by decide +kernel⟩, by decide⟩
theorem ml_L_32 : VLk "SteamNationsLaw" 32 ⟨"SteamNations", "terms", "(II)I"⟩ prog_1_method_6_code 4 (some .int) 10 2 := ⟨rfl, gm_3 31 rfl rfl, gm_3 32 rfl rfl, gm_3 33 rfl rfl, gm_1 1 rfl rfl, gm_3 34 rfl rfl, ⟨by decide, by decide, by decide +kernel⟩, by decide⟩
theorem ml_L_35 : VLk "SteamNationsLaw" 35 ⟨"SteamNationsModel", "terms", "(II)I"⟩ prog_13_method_32_code 4 (some .int) 11 2 := ⟨rfl, gm_7 16 rfl rfl, gm_7 17 rfl rfl, gm_7 18 rfl rfl, gm_1 13 rfl rfl, gm_7 19 rfl rfl, ⟨by decide, by decide, by decide +kernel⟩, by decide⟩
theorem ml_L_36 : VLk "SteamNationsLaw" 36 ⟨"SteamNations", "feed", "(IIIII)I"⟩ prog_1_method_7_code 6 (some .int) 10 5 := ⟨rfl, gm_3 37 rfl rfl, gm_3 38 rfl rfl, gm_3 39 rfl rfl, gm_1 1 rfl rfl, gm_3 40 rfl rfl, ⟨by decide, by decide, by decide +kernel⟩, by decide⟩
theorem ml_L_40 : VLk "SteamNationsLaw" 40 ⟨"SteamNationsModel", "feed", "(IIIII)I"⟩ prog_13_method_35_code 7 (some .int) 11 5 := ⟨rfl, gm_7 34 rfl rfl, gm_7 35 rfl rfl, gm_7 36 rfl rfl, gm_1 13 rfl rfl, gm_7 37 rfl rfl, ⟨by decide, by decide, by decide +kernel⟩, by decide⟩
theorem ml_L_41 : VLk "SteamNationsLaw" 41 ⟨"SteamNations", "end", "(I)I"⟩ prog_1_method_8_code 2 (some .int) 10 1 := ⟨rfl, gm_3 45 rfl rfl, gm_3 46 rfl rfl, gm_3 47 rfl rfl, gm_1 1 rfl rfl, gm_3 48 rfl rfl, ⟨by decide, by decide, by decide +kernel⟩, by decide⟩
theorem ml_L_44 : VLk "SteamNationsLaw" 44 ⟨"SteamNationsModel", "end", "(I)I"⟩ prog_13_method_36_code 2 (some .int) 11 1 := ⟨rfl, gm_7 38 rfl rfl, gm_7 39 rfl rfl, gm_7 40 rfl rfl, gm_1 13 rfl rfl, gm_7 41 rfl rfl, ⟨by decide, by decide, by decide +kernel⟩, by decide⟩
theorem ml_L_45 : VLk "SteamNationsLaw" 45 ⟨"SteamNations", "row", "()I"⟩ prog_1_method_9_code 3 (some .int) 10 0 := ⟨rfl, gm_3 49 rfl rfl, gm_3 50 rfl rfl, gm_3 51 rfl rfl, gm_1 1 rfl rfl, gm_3 52 rfl rfl, ⟨by decide, by decide, by decide +kernel⟩, by decide⟩
theorem ml_L_49 : VLk "SteamNationsLaw" 49 ⟨"SteamNationsModel", "row", "()I"⟩ prog_13_method_33_code 5 (some .int) 11 0 := ⟨rfl, gm_7 26 rfl rfl, gm_7 27 rfl rfl, gm_7 28 rfl rfl, gm_1 13 rfl rfl, gm_7 29 rfl rfl, ⟨by decide, by decide, by decide +kernel⟩, by decide⟩
theorem ml_L_50 : VLk "SteamNationsLaw" 50 ⟨"SteamNations", "puffs", "()I"⟩ prog_1_method_10_code 1 (some .int) 10 0 := ⟨rfl, gm_3 57 rfl rfl, gm_3 58 rfl rfl, gm_3 59 rfl rfl, gm_1 1 rfl rfl, gm_3 60 rfl rfl, ⟨by decide, by decide, by decide +kernel⟩, by decide⟩
theorem ml_L_53 : VLk "SteamNationsLaw" 53 ⟨"SteamNationsModel", "puffs", "()I"⟩ prog_13_method_34_code 1 (some .int) 11 0 := ⟨rfl, gm_7 30 rfl rfl, gm_7 31 rfl rfl, gm_7 32 rfl rfl, gm_1 13 rfl rfl, gm_7 33 rfl rfl, ⟨by decide, by decide, by decide +kernel⟩, by decide⟩
theorem ml_L_54 : VLk "SteamNationsLaw" 54 ⟨"SteamNations", "law", "()I"⟩ prog_1_method_11_code 3 (some .int) 10 0 := ⟨rfl, gm_3 61 rfl rfl, gm_3 62 rfl rfl, gm_3 63 rfl rfl, gm_1 1 rfl rfl, gm_3 64 rfl rfl, ⟨by decide, by decide, by decide +kernel⟩, by decide⟩
theorem ml_L_57 : VLk "SteamNationsLaw" 57 ⟨"SteamNationsModel", "law", "()I"⟩ prog_13_method_60_code 1 (some .int) 11 0 := ⟨rfl, gm_7 42 rfl rfl, gm_7 43 rfl rfl, gm_7 44 rfl rfl, gm_1 13 rfl rfl, gm_7 45 rfl rfl, ⟨by decide, by decide, by decide +kernel⟩, by decide⟩
theorem ml_L_58 : VLk "SteamNationsLaw" 58 ⟨"SteamNations", "orders", "()I"⟩ prog_1_method_12_code 2 (some .int) 10 0 := ⟨rfl, gm_4 10 rfl rfl, gm_4 11 rfl rfl, gm_4 12 rfl rfl, gm_1 1 rfl rfl, gm_4 13 rfl rfl, ⟨by decide, by decide, by decide +kernel⟩, by decide⟩
theorem ml_L_61 : VLk "SteamNationsLaw" 61 ⟨"SteamNationsModel", "orders", "()I"⟩ prog_13_method_123_code 5 (some .int) 11 0 := ⟨rfl, gm_8 99 rfl rfl, gm_8 100 rfl rfl, gm_8 101 rfl rfl, gm_1 13 rfl rfl, gm_8 102 rfl rfl, ⟨by decide, by decide, by decide +kernel⟩, by decide⟩
theorem ml_L_62 : VLk "SteamNationsLaw" 62 ⟨"SteamNations", "fault", "()I"⟩ prog_1_method_13_code 1 (some .int) 10 0 := ⟨rfl, gm_4 98 rfl rfl, gm_4 99 rfl rfl, gm_4 100 rfl rfl, gm_1 1 rfl rfl, gm_4 101 rfl rfl, ⟨by decide, by decide, by decide +kernel⟩, by decide⟩
theorem ml_L_65 : VLk "SteamNationsLaw" 65 ⟨"SteamNationsModel", "fault", "()I"⟩ prog_13_method_61_code 1 (some .int) 11 0 := ⟨rfl, gm_7 133 rfl rfl, gm_7 134 rfl rfl, gm_7 135 rfl rfl, gm_1 13 rfl rfl, gm_7 136 rfl rfl, ⟨by decide, by decide, by decide +kernel⟩, by decide⟩
theorem ml_L_66 : VLk "SteamNationsLaw" 66 ⟨"SteamNations", "stopped", "()I"⟩ prog_1_method_14_code 1 (some .int) 10 0 := ⟨rfl, gm_4 102 rfl rfl, gm_4 103 rfl rfl, gm_4 104 rfl rfl, gm_1 1 rfl rfl, gm_4 105 rfl rfl, ⟨by decide, by decide, by decide +kernel⟩, by decide⟩
theorem ml_L_69 : VLk "SteamNationsLaw" 69 ⟨"SteamNationsModel", "stopped", "()I"⟩ prog_13_method_122_code 1 (some .int) 11 0 := ⟨rfl, gm_8 95 rfl rfl, gm_8 96 rfl rfl, gm_8 97 rfl rfl, gm_1 13 rfl rfl, gm_8 98 rfl rfl, ⟨by decide, by decide, by decide +kernel⟩, by decide⟩
theorem ml_L_70 : VLk "SteamNationsLaw" 70 ⟨"SteamNations", "force", "(I)I"⟩ prog_1_method_15_code 3 (some .int) 10 1 := ⟨rfl, gm_4 106 rfl rfl, gm_4 107 rfl rfl, gm_4 108 rfl rfl, gm_1 1 rfl rfl, gm_4 109 rfl rfl, ⟨by decide, by decide, by decide +kernel⟩, by decide⟩
theorem ml_L_73 : VLk "SteamNationsLaw" 73 ⟨"SteamNationsModel", "force", "(I)I"⟩ prog_13_method_63_code 3 (some .int) 11 1 := ⟨rfl, gm_7 137 rfl rfl, gm_7 138 rfl rfl, gm_7 139 rfl rfl, gm_1 13 rfl rfl, gm_7 140 rfl rfl, ⟨by decide, by decide, by decide +kernel⟩, by decide⟩
theorem ml_L_74 : VLk "SteamNationsLaw" 74 ⟨"SteamNations", "seat", "(II)I"⟩ prog_1_method_16_code 3 (some .int) 10 2 := ⟨rfl, gm_4 111 rfl rfl, gm_4 112 rfl rfl, gm_4 113 rfl rfl, gm_1 1 rfl rfl, gm_4 114 rfl rfl, ⟨by decide, by decide, by decide +kernel⟩, by decide⟩
theorem ml_L_77 : VLk "SteamNationsLaw" 77 ⟨"SteamNationsModel", "seat", "(II)I"⟩ prog_13_method_90_code 3 (some .int) 11 2 := ⟨rfl, gm_7 149 rfl rfl, gm_7 150 rfl rfl, gm_7 151 rfl rfl, gm_1 13 rfl rfl, gm_7 152 rfl rfl, ⟨by decide, by decide, by decide +kernel⟩, by decide⟩
theorem ml_L_78 : VLk "SteamNationsLaw" 78 ⟨"SteamNations", "out", "(I)I"⟩ prog_1_method_17_code 2 (some .int) 10 1 := ⟨rfl, gm_4 116 rfl rfl, gm_4 117 rfl rfl, gm_4 118 rfl rfl, gm_1 1 rfl rfl, gm_4 119 rfl rfl, ⟨by decide, by decide, by decide +kernel⟩, by decide⟩
theorem ml_L_81 : VLk "SteamNationsLaw" 81 ⟨"SteamNationsModel", "out", "(I)I"⟩ prog_13_method_91_code 2 (some .int) 11 1 := ⟨rfl, gm_7 165 rfl rfl, gm_7 166 rfl rfl, gm_7 167 rfl rfl, gm_1 13 rfl rfl, gm_7 168 rfl rfl, ⟨by decide, by decide, by decide +kernel⟩, by decide⟩
theorem ml_L_82 : VLk "SteamNationsLaw" 82 ⟨"SteamNations", "swap", "(II)I"⟩ prog_1_method_18_code 3 (some .int) 10 2 := ⟨rfl, gm_4 121 rfl rfl, gm_4 122 rfl rfl, gm_4 123 rfl rfl, gm_1 1 rfl rfl, gm_4 124 rfl rfl, ⟨by decide, by decide, by decide +kernel⟩, by decide⟩
theorem ml_L_85 : VLk "SteamNationsLaw" 85 ⟨"SteamNationsModel", "swap", "(II)I"⟩ prog_13_method_92_code 3 (some .int) 11 2 := ⟨rfl, gm_7 173 rfl rfl, gm_7 174 rfl rfl, gm_7 175 rfl rfl, gm_1 13 rfl rfl, gm_7 176 rfl rfl, ⟨by decide, by decide, by decide +kernel⟩, by decide⟩
theorem ml_L_86 : VLk "SteamNationsLaw" 86 ⟨"SteamNations", "pass", "()I"⟩ prog_1_method_19_code 1 (some .int) 10 0 := ⟨rfl, gm_4 126 rfl rfl, gm_4 127 rfl rfl, gm_4 128 rfl rfl, gm_1 1 rfl rfl, gm_4 129 rfl rfl, ⟨by decide, by decide, by decide +kernel⟩, by decide⟩
theorem ml_L_89 : VLk "SteamNationsLaw" 89 ⟨"SteamNationsModel", "pass", "()I"⟩ prog_13_method_93_code 1 (some .int) 11 0 := ⟨rfl, gm_7 181 rfl rfl, gm_7 182 rfl rfl, gm_7 183 rfl rfl, gm_1 13 rfl rfl, gm_7 184 rfl rfl, ⟨by decide, by decide, by decide +kernel⟩, by decide⟩
theorem ml_L_90 : VLk "SteamNationsLaw" 90 ⟨"SteamNations", "undo", "()I"⟩ prog_1_method_20_code 1 (some .int) 10 0 := ⟨rfl, gm_4 131 rfl rfl, gm_4 132 rfl rfl, gm_4 133 rfl rfl, gm_1 1 rfl rfl, gm_4 134 rfl rfl, ⟨by decide, by decide, by decide +kernel⟩, by decide⟩
theorem ml_L_93 : VLk "SteamNationsLaw" 93 ⟨"SteamNationsModel", "undo", "()I"⟩ prog_13_method_84_code 3 (some .int) 11 0 := ⟨rfl, gm_7 145 rfl rfl, gm_7 146 rfl rfl, gm_7 147 rfl rfl, gm_1 13 rfl rfl, gm_7 148 rfl rfl, ⟨by decide, by decide, by decide +kernel⟩, by decide⟩
theorem ml_L_94 : VLk "SteamNationsLaw" 94 ⟨"SteamNations", "later", "(III)I"⟩ prog_1_method_21_code 4 (some .int) 10 3 := ⟨rfl, gm_4 139 rfl rfl, gm_4 140 rfl rfl, gm_4 141 rfl rfl, gm_1 1 rfl rfl, gm_4 142 rfl rfl, ⟨by decide, by decide, by decide +kernel⟩, by decide⟩
theorem ml_L_98 : VLk "SteamNationsLaw" 98 ⟨"SteamNationsModel", "later", "(III)I"⟩ prog_13_method_94_code 5 (some .int) 11 3 := ⟨rfl, gm_7 200 rfl rfl, gm_7 201 rfl rfl, gm_7 202 rfl rfl, gm_1 13 rfl rfl, gm_7 203 rfl rfl, ⟨by decide, by decide, by decide +kernel⟩, by decide⟩
theorem ml_L_99 : VLk "SteamNationsLaw" 99 ⟨"SteamNations", "when", "(II)I"⟩ prog_1_method_22_code 4 (some .int) 10 2 := ⟨rfl, gm_4 152 rfl rfl, gm_4 153 rfl rfl, gm_4 154 rfl rfl, gm_1 1 rfl rfl, gm_4 155 rfl rfl, ⟨by decide, by decide, by decide +kernel⟩, by decide⟩
theorem ml_L_102 : VLk "SteamNationsLaw" 102 ⟨"SteamNationsModel", "when", "(II)I"⟩ prog_13_method_95_code 4 (some .int) 11 2 := ⟨rfl, gm_7 216 rfl rfl, gm_7 217 rfl rfl, gm_7 218 rfl rfl, gm_1 13 rfl rfl, gm_7 219 rfl rfl, ⟨by decide, by decide, by decide +kernel⟩, by decide⟩
theorem ml_L_103 : VLk "SteamNationsLaw" 103 ⟨"SteamNations", "one", "()I"⟩ prog_1_method_23_code 2 (some .int) 10 0 := ⟨rfl, gm_4 156 rfl rfl, gm_4 157 rfl rfl, gm_4 158 rfl rfl, gm_1 1 rfl rfl, gm_4 159 rfl rfl, ⟨by decide, by decide, by decide +kernel⟩, by decide⟩
theorem ml_L_106 : VLk "SteamNationsLaw" 106 ⟨"SteamNationsModel", "one", "()I"⟩ prog_13_method_97_code 2 (some .int) 11 0 := ⟨rfl, gm_7 220 rfl rfl, gm_7 221 rfl rfl, gm_7 222 rfl rfl, gm_1 13 rfl rfl, gm_7 223 rfl rfl, ⟨by decide, by decide, by decide +kernel⟩, by decide⟩
theorem ml_L_107 : VLk "SteamNationsLaw" 107 ⟨"SteamNations", "pleased", "(II)I"⟩ prog_1_method_24_code 4 (some .int) 10 2 := ⟨rfl, gm_4 164 rfl rfl, gm_4 165 rfl rfl, gm_4 166 rfl rfl, gm_1 1 rfl rfl, gm_4 167 rfl rfl, ⟨by decide, by decide, by decide +kernel⟩, by decide⟩
theorem ml_L_110 : VLk "SteamNationsLaw" 110 ⟨"SteamNationsModel", "pleased", "(II)I"⟩ prog_13_method_102_code 6 (some .int) 11 2 := ⟨rfl, gm_7 228 rfl rfl, gm_7 229 rfl rfl, gm_7 230 rfl rfl, gm_1 13 rfl rfl, gm_7 231 rfl rfl, ⟨by decide, by decide, by decide +kernel⟩, by decide⟩
theorem ml_L_111 : VLk "SteamNationsLaw" 111 ⟨"SteamNations", "exchanges", "(II)I"⟩ prog_1_method_25_code 3 (some .int) 10 2 := ⟨rfl, gm_4 224 rfl rfl, gm_4 225 rfl rfl, gm_4 226 rfl rfl, gm_1 1 rfl rfl, gm_4 227 rfl rfl, ⟨by decide, by decide, by decide +kernel⟩, by decide⟩
theorem ml_L_114 : VLk "SteamNationsLaw" 114 ⟨"SteamNationsModel", "exchanges", "(II)I"⟩ prog_13_method_107_code 4 (some .int) 11 2 := ⟨rfl, gm_8 10 rfl rfl, gm_8 11 rfl rfl, gm_8 12 rfl rfl, gm_1 13 rfl rfl, gm_8 13 rfl rfl, ⟨by decide, by decide, by decide +kernel⟩, by decide⟩
theorem ml_L_115 : VLk "SteamNationsLaw" 115 ⟨"SteamNations", "seen", "(III)I"⟩ prog_1_method_26_code 4 (some .int) 10 3 := ⟨rfl, gm_5 21 rfl rfl, gm_5 22 rfl rfl, gm_5 23 rfl rfl, gm_1 1 rfl rfl, gm_5 24 rfl rfl, ⟨by decide, by decide, by decide +kernel⟩, by decide⟩
theorem ml_L_118 : VLk "SteamNationsLaw" 118 ⟨"SteamNationsModel", "seen", "(III)I"⟩ prog_13_method_108_code 5 (some .int) 11 3 := ⟨rfl, gm_8 34 rfl rfl, gm_8 35 rfl rfl, gm_8 36 rfl rfl, gm_1 13 rfl rfl, gm_8 37 rfl rfl, ⟨by decide, by decide, by decide +kernel⟩, by decide⟩
theorem ml_L_119 : VLk "SteamNationsLaw" 119 ⟨"SteamNations", "forget", "()I"⟩ prog_1_method_27_code 2 (some .int) 10 0 := ⟨rfl, gm_5 29 rfl rfl, gm_5 30 rfl rfl, gm_5 31 rfl rfl, gm_1 1 rfl rfl, gm_5 32 rfl rfl, ⟨by decide, by decide, by decide +kernel⟩, by decide⟩
theorem ml_L_122 : VLk "SteamNationsLaw" 122 ⟨"SteamNationsModel", "forget", "()I"⟩ prog_13_method_109_code 2 (some .int) 11 0 := ⟨rfl, gm_8 38 rfl rfl, gm_8 39 rfl rfl, gm_8 40 rfl rfl, gm_1 13 rfl rfl, gm_8 41 rfl rfl, ⟨by decide, by decide, by decide +kernel⟩, by decide⟩
theorem ml_L_123 : VLk "SteamNationsLaw" 123 ⟨"SteamNations", "sat", "(II)I"⟩ prog_1_method_28_code 4 (some .int) 10 2 := ⟨rfl, gm_5 33 rfl rfl, gm_5 34 rfl rfl, gm_5 35 rfl rfl, gm_1 1 rfl rfl, gm_5 36 rfl rfl, ⟨by decide, by decide, by decide +kernel⟩, by decide⟩
theorem ml_L_126 : VLk "SteamNationsLaw" 126 ⟨"SteamNationsModel", "sat", "(II)I"⟩ prog_13_method_112_code 7 (some .int) 11 2 := ⟨rfl, gm_8 42 rfl rfl, gm_8 43 rfl rfl, gm_8 44 rfl rfl, gm_1 13 rfl rfl, gm_8 45 rfl rfl, ⟨by decide, by decide, by decide +kernel⟩, by decide⟩
theorem ml_L_127 : VLk "SteamNationsLaw" 127 ⟨"SteamNations", "ask", "(II)I"⟩ prog_1_method_29_code 7 (some .int) 10 2 := ⟨rfl, gm_5 67 rfl rfl, gm_5 68 rfl rfl, gm_5 69 rfl rfl, gm_1 1 rfl rfl, gm_5 70 rfl rfl, ⟨by decide, by decide, by decide +kernel⟩, by decide⟩
theorem ml_L_130 : VLk "SteamNationsLaw" 130 ⟨"SteamNationsModel", "ask", "(II)I"⟩ prog_13_method_114_code 7 (some .int) 11 2 := ⟨rfl, gm_8 54 rfl rfl, gm_8 55 rfl rfl, gm_8 56 rfl rfl, gm_1 13 rfl rfl, gm_8 57 rfl rfl, ⟨by decide, by decide, by decide +kernel⟩, by decide⟩
theorem ml_L_131 : VLk "SteamNationsLaw" 131 ⟨"SteamNations", "treaty", "(II)I"⟩ prog_1_method_30_code 5 (some .int) 10 2 := ⟨rfl, gm_5 78 rfl rfl, gm_5 79 rfl rfl, gm_5 80 rfl rfl, gm_1 1 rfl rfl, gm_5 81 rfl rfl, ⟨by decide, by decide, by decide +kernel⟩, by decide⟩
theorem ml_L_134 : VLk "SteamNationsLaw" 134 ⟨"SteamNationsModel", "treaty", "(II)I"⟩ prog_13_method_117_code 5 (some .int) 11 2 := ⟨rfl, gm_8 62 rfl rfl, gm_8 63 rfl rfl, gm_8 64 rfl rfl, gm_1 13 rfl rfl, gm_8 65 rfl rfl, ⟨by decide, by decide, by decide +kernel⟩, by decide⟩
theorem ml_L_135 : VLk "SteamNationsLaw" 135 ⟨"SteamNations", "drop", "(III)I"⟩ prog_1_method_31_code 6 (some .int) 10 3 := ⟨rfl, gm_5 97 rfl rfl, gm_5 98 rfl rfl, gm_5 99 rfl rfl, gm_1 1 rfl rfl, gm_5 100 rfl rfl, ⟨by decide, by decide, by decide +kernel⟩, by decide⟩
theorem ml_L_138 : VLk "SteamNationsLaw" 138 ⟨"SteamNationsModel", "drop", "(III)I"⟩ prog_13_method_119_code 5 (some .int) 11 3 := ⟨rfl, gm_8 77 rfl rfl, gm_8 78 rfl rfl, gm_8 79 rfl rfl, gm_1 13 rfl rfl, gm_8 80 rfl rfl, ⟨by decide, by decide, by decide +kernel⟩, by decide⟩
theorem ml_L_139 : VLk "SteamNationsLaw" 139 ⟨"SteamNations", "few", "(II)J"⟩ prog_1_method_32_code 7 (some .long) 10 2 := ⟨rfl, gm_5 108 rfl rfl, gm_5 109 rfl rfl, gm_5 110 rfl rfl, gm_1 1 rfl rfl, gm_5 111 rfl rfl, ⟨by decide, by decide, by decide +kernel⟩, by decide⟩
theorem ml_L_143 : VLk "SteamNationsLaw" 143 ⟨"SteamNationsModel", "few", "(II)J"⟩ prog_13_method_120_code 6 (some .long) 11 2 := ⟨rfl, gm_8 85 rfl rfl, gm_8 86 rfl rfl, gm_8 87 rfl rfl, gm_1 13 rfl rfl, gm_8 88 rfl rfl, ⟨by decide, by decide, by decide +kernel⟩, by decide⟩
theorem ml_L_144 : VLk "SteamNationsLaw" 144 ⟨"SteamNations", "compare", "(II)I"⟩ prog_1_method_33_code 3 (some .int) 10 2 := ⟨rfl, gm_5 118 rfl rfl, gm_5 119 rfl rfl, gm_5 120 rfl rfl, gm_1 1 rfl rfl, gm_5 121 rfl rfl, ⟨by decide, by decide, by decide +kernel⟩, by decide⟩
theorem ml_L_147 : VLk "SteamNationsLaw" 147 ⟨"SteamNationsModel", "compare", "(II)I"⟩ prog_13_method_121_code 5 (some .int) 11 2 := ⟨rfl, gm_8 91 rfl rfl, gm_8 92 rfl rfl, gm_8 93 rfl rfl, gm_1 13 rfl rfl, gm_8 94 rfl rfl, ⟨by decide, by decide, by decide +kernel⟩, by decide⟩
theorem ml_L_148 : VLk "SteamNationsLaw" 148 ⟨"SteamNations", "mornings", "(II)I"⟩ prog_1_method_34_code 8 (some .int) 10 2 := ⟨rfl, gm_5 124 rfl rfl, gm_5 125 rfl rfl, gm_5 126 rfl rfl, gm_1 1 rfl rfl, gm_5 127 rfl rfl, ⟨by decide, by decide, by decide +kernel⟩, by decide⟩
theorem ml_L_151 : VLk "SteamNationsLaw" 151 ⟨"SteamNationsModel", "mornings", "(II)I"⟩ prog_13_method_130_code 5 (some .int) 11 2 := ⟨rfl, gm_8 119 rfl rfl, gm_8 120 rfl rfl, gm_8 121 rfl rfl, gm_1 13 rfl rfl, gm_8 122 rfl rfl, ⟨by decide, by decide, by decide +kernel⟩, by decide⟩
theorem ml_L_152 : VLk "SteamNationsLaw" 152 ⟨"SteamNations", "drawn", "(II)I"⟩ prog_1_method_35_code 3 (some .int) 10 2 := ⟨rfl, gm_5 136 rfl rfl, gm_5 137 rfl rfl, gm_5 138 rfl rfl, gm_1 1 rfl rfl, gm_5 139 rfl rfl, ⟨by decide, by decide, by decide +kernel⟩, by decide⟩
theorem ml_L_155 : VLk "SteamNationsLaw" 155 ⟨"SteamNationsModel", "drawn", "(II)I"⟩ prog_13_method_131_code 3 (some .int) 11 2 := ⟨rfl, gm_8 134 rfl rfl, gm_8 135 rfl rfl, gm_8 136 rfl rfl, gm_1 13 rfl rfl, gm_8 137 rfl rfl, ⟨by decide, by decide, by decide +kernel⟩, by decide⟩
theorem ml_L_156 : VLk "SteamNationsLaw" 156 ⟨"SteamNations", "image", "(I)I"⟩ prog_1_method_36_code 2 (some .int) 10 1 := ⟨rfl, gm_5 140 rfl rfl, gm_5 141 rfl rfl, gm_5 142 rfl rfl, gm_1 1 rfl rfl, gm_5 143 rfl rfl, ⟨by decide, by decide, by decide +kernel⟩, by decide⟩
theorem ml_L_159 : VLk "SteamNationsLaw" 159 ⟨"SteamNationsModel", "image", "(I)I"⟩ prog_13_method_15_code 3 (some .int) 11 1 := ⟨rfl, gm_6 102 rfl rfl, gm_6 103 rfl rfl, gm_6 104 rfl rfl, gm_1 13 rfl rfl, gm_6 105 rfl rfl, ⟨by decide, by decide, by decide +kernel⟩, by decide⟩
theorem ml_L_160 : VLk "SteamNationsLaw" 160 ⟨"SteamNations", "back", "(I)I"⟩ prog_1_method_37_code 2 (some .int) 10 1 := ⟨rfl, gm_5 150 rfl rfl, gm_5 151 rfl rfl, gm_5 152 rfl rfl, gm_1 1 rfl rfl, gm_5 153 rfl rfl, ⟨by decide, by decide, by decide +kernel⟩, by decide⟩
theorem ml_L_163 : VLk "SteamNationsLaw" 163 ⟨"SteamNationsModel", "back", "(I)I"⟩ prog_13_method_16_code 3 (some .int) 11 1 := ⟨rfl, gm_6 117 rfl rfl, gm_6 118 rfl rfl, gm_6 119 rfl rfl, gm_1 13 rfl rfl, gm_6 120 rfl rfl, ⟨by decide, by decide, by decide +kernel⟩, by decide⟩
theorem ml_L_164 : VLk "SteamNationsLaw" 164 ⟨"SteamNations", "count", "(I)I"⟩ prog_1_method_38_code 2 (some .int) 10 1 := ⟨rfl, gm_5 154 rfl rfl, gm_5 155 rfl rfl, gm_5 156 rfl rfl, gm_1 1 rfl rfl, gm_5 157 rfl rfl, ⟨by decide, by decide, by decide +kernel⟩, by decide⟩
theorem ml_L_167 : VLk "SteamNationsLaw" 167 ⟨"SteamNationsModel", "count", "(I)I"⟩ prog_13_method_133_code 2 (some .int) 11 1 := ⟨rfl, gm_8 138 rfl rfl, gm_8 139 rfl rfl, gm_8 140 rfl rfl, gm_1 13 rfl rfl, gm_8 141 rfl rfl, ⟨by decide, by decide, by decide +kernel⟩, by decide⟩
theorem ml_L_168 : VLk "SteamNationsLaw" 168 ⟨"SteamNations", "status", "()I"⟩ prog_1_method_39_code 1 (some .int) 10 0 := ⟨rfl, gm_5 163 rfl rfl, gm_5 164 rfl rfl, gm_5 165 rfl rfl, gm_1 1 rfl rfl, gm_5 166 rfl rfl, ⟨by decide, by decide, by decide +kernel⟩, by decide⟩
theorem ml_L_171 : VLk "SteamNationsLaw" 171 ⟨"SteamNationsModel", "status", "()I"⟩ prog_13_method_134_code 1 (some .int) 11 0 := ⟨rfl, gm_8 146 rfl rfl, gm_8 147 rfl rfl, gm_8 148 rfl rfl, gm_1 13 rfl rfl, gm_8 149 rfl rfl, ⟨by decide, by decide, by decide +kernel⟩, by decide⟩
theorem ml_11_14 : VLk cn_11 14 ⟨"SteamNationsModel", "good", "(I)I"⟩ prog_13_method_5_code 2 (some .int) 11 1 := ⟨rfl, gm_6 113 rfl rfl, gm_6 115 rfl rfl, gw_mem 51 (by decide +kernel) rfl, gm_1 13 rfl rfl, gm_6 116 rfl rfl, ⟨by decide, by decide, by decide +kernel⟩, by decide⟩
theorem ml_11_18 : SLk cn_11 18 ⟨"SteamNationsModel", "lies", "(III)Z"⟩ prog_13_method_1_code 3 (some .boolean) 3 := ⟨gm_6 106 rfl rfl, gm_6 107 rfl rfl, gm_1 13 rfl rfl, gm_6 108 rfl rfl, ⟨by decide, by decide, by decide +kernel⟩, by decide⟩
theorem ml_11_121 : VLk cn_11 121 ⟨"SteamNationsModel", "refuses", "(I)I"⟩ prog_13_method_4_code 2 (some .int) 11 1 := ⟨rfl, gm_6 109 rfl rfl, gm_6 111 rfl rfl, gw_mem 50 (by decide +kernel) rfl, gm_1 13 rfl rfl, gm_6 112 rfl rfl, ⟨by decide, by decide, by decide +kernel⟩, by decide⟩
theorem ml_11_124 : VLk cn_11 124 ⟨"SteamNationsModel", "settled", "(I)I"⟩ prog_13_method_6_code 2 (some .int) 11 1 := ⟨rfl, gm_6 121 rfl rfl, gm_6 123 rfl rfl, gw_mem 52 (by decide +kernel) rfl, gm_1 13 rfl rfl, gm_6 124 rfl rfl, ⟨by decide, by decide, by decide +kernel⟩, by decide⟩
theorem ml_11_127 : VLk cn_11 127 ⟨"SteamNationsModel", "many", "()I"⟩ prog_13_method_17_code 1 (some .int) 11 0 := ⟨rfl, gm_6 135 rfl rfl, gm_6 137 rfl rfl, gw_mem 53 (by decide +kernel) rfl, gm_1 13 rfl rfl, gm_6 138 rfl rfl, ⟨by decide, by decide, by decide +kernel⟩, by decide⟩
theorem ml_11_131 : VLk cn_11 131 ⟨"SteamNationsModel", "partsOf", "(II)I"⟩ prog_13_method_19_code 3 (some .int) 11 2 := ⟨rfl, gm_6 151 rfl rfl, gm_6 153 rfl rfl, gw_mem 56 (by decide +kernel) rfl, gm_1 13 rfl rfl, gm_6 154 rfl rfl, ⟨by decide, by decide, by decide +kernel⟩, by decide⟩
theorem ml_11_135 : SLk cn_11 135 ⟨"SteamNationsModel", "isNation", "(I)Z"⟩ prog_13_method_9_code 1 (some .boolean) 1 := ⟨gm_6 132 rfl rfl, gm_6 133 rfl rfl, gm_1 13 rfl rfl, gm_6 134 rfl rfl, ⟨by decide, by decide, by decide +kernel⟩, by decide⟩
theorem ml_11_139 : SLk cn_11 139 ⟨"SteamNationsModel", "canBe", "(IIII)Z"⟩ prog_13_method_24_code 4 (some .boolean) 4 := ⟨gm_6 129 rfl rfl, gm_6 130 rfl rfl, gm_1 13 rfl rfl, gm_6 131 rfl rfl, ⟨by decide, by decide, by decide +kernel⟩, by decide⟩
theorem ml_11_143 : VLk cn_11 143 ⟨"SteamNationsModel", "adds", "(IIII)V"⟩ prog_13_method_25_code 6 none 11 4 := ⟨rfl, gm_6 139 rfl rfl, gm_6 141 rfl rfl, gw_mem 54 (by decide +kernel) rfl, gm_1 13 rfl rfl, gm_6 142 rfl rfl, ⟨by decide, by decide, by decide +kernel⟩, by decide⟩
theorem ml_11_147 : VLk cn_11 147 ⟨"SteamNationsModel", "isSitter", "(I)Z"⟩ prog_13_method_18_code 2 (some .boolean) 11 1 := ⟨rfl, gm_6 147 rfl rfl, gm_6 149 rfl rfl, gw_mem 55 (by decide +kernel) rfl, gm_1 13 rfl rfl, gm_6 150 rfl rfl, ⟨by decide, by decide, by decide +kernel⟩, by decide⟩
theorem ml_11_150 : VLk cn_11 150 ⟨"SteamNationsModel", "seatOf", "(I)I"⟩ prog_13_method_20_code 2 (some .int) 11 1 := ⟨rfl, gm_6 155 rfl rfl, gm_6 157 rfl rfl, gw_mem 57 (by decide +kernel) rfl, gm_1 13 rfl rfl, gm_6 158 rfl rfl, ⟨by decide, by decide, by decide +kernel⟩, by decide⟩
theorem ml_11_153 : VLk cn_11 153 ⟨"SteamNationsModel", "nationOf", "(I)I"⟩ prog_13_method_22_code 4 (some .int) 11 1 := ⟨rfl, gm_6 159 rfl rfl, gm_6 161 rfl rfl, gw_mem 58 (by decide +kernel) rfl, gm_1 13 rfl rfl, gm_6 162 rfl rfl, ⟨by decide, by decide, by decide +kernel⟩, by decide⟩
theorem ml_11_156 : VLk cn_11 156 ⟨"SteamNationsModel", "isInside", "(I)Z"⟩ prog_13_method_21_code 2 (some .boolean) 11 1 := ⟨rfl, gm_6 163 rfl rfl, gm_6 165 rfl rfl, gw_mem 59 (by decide +kernel) rfl, gm_1 13 rfl rfl, gm_6 166 rfl rfl, ⟨by decide, by decide, by decide +kernel⟩, by decide⟩
theorem ml_11_159 : VLk cn_11 159 ⟨"SteamNationsModel", "tells", "(III)I"⟩ prog_13_method_76_code 11 (some .int) 11 3 := ⟨rfl, gm_6 167 rfl rfl, gm_6 169 rfl rfl, gw_mem 60 (by decide +kernel) rfl, gm_1 13 rfl rfl, gm_6 170 rfl rfl, ⟨by decide, by decide, by decide +kernel⟩, by decide⟩
theorem ml_11_163 : SLk cn_11 163 ⟨"SteamNationsModel", "isSeat", "(I)Z"⟩ prog_13_method_10_code 1 (some .boolean) 1 := ⟨gm_6 238 rfl rfl, gm_6 239 rfl rfl, gm_1 13 rfl rfl, gm_7 0 rfl rfl, ⟨by decide, by decide, by decide +kernel⟩, by decide⟩
theorem ml_11_166 : VLk cn_11 166 ⟨"SteamNationsModel", "onSeat", "(I)I"⟩ prog_13_method_23_code 4 (some .int) 11 1 := ⟨rfl, gm_7 1 rfl rfl, gm_7 3 rfl rfl, gw_mem 75 (by decide +kernel) rfl, gm_1 13 rfl rfl, gm_7 4 rfl rfl, ⟨by decide, by decide, by decide +kernel⟩, by decide⟩
theorem ml_11_169 : SLk cn_11 169 ⟨"SteamNationsModel", "areBeside", "(II)Z"⟩ prog_13_method_11_code 3 (some .boolean) 2 := ⟨gm_7 9 rfl rfl, gm_7 10 rfl rfl, gm_1 13 rfl rfl, gm_7 11 rfl rfl, ⟨by decide, by decide, by decide +kernel⟩, by decide⟩
theorem ml_11_173 : VLk cn_11 173 ⟨"SteamNationsModel", "givesTo", "(II)I"⟩ prog_13_method_77_code 4 (some .int) 11 2 := ⟨rfl, gm_7 12 rfl rfl, gm_7 14 rfl rfl, gw_mem 76 (by decide +kernel) rfl, gm_1 13 rfl rfl, gm_7 15 rfl rfl, ⟨by decide, by decide, by decide +kernel⟩, by decide⟩
theorem ml_11_176 : SLk cn_11 176 ⟨"SteamNationsModel", "isTerm", "(II)Z"⟩ prog_13_method_30_code 2 (some .boolean) 2 := ⟨gm_7 20 rfl rfl, gm_7 21 rfl rfl, gm_1 13 rfl rfl, gm_7 22 rfl rfl, ⟨by decide, by decide, by decide +kernel⟩, by decide⟩
theorem ml_11_179 : SLk cn_11 179 ⟨"SteamNationsModel", "termAt", "(I)I"⟩ prog_13_method_31_code 1 (some .int) 1 := ⟨gm_7 23 rfl rfl, gm_7 24 rfl rfl, gm_1 13 rfl rfl, gm_7 25 rfl rfl, ⟨by decide, by decide, by decide +kernel⟩, by decide⟩
theorem ml_11_191 : SLk cn_11 191 ⟨"SteamNationsModel", "isSmall", "(I)Z"⟩ prog_13_method_37_code 1 (some .boolean) 1 := ⟨gm_7 58 rfl rfl, gm_7 59 rfl rfl, gm_1 13 rfl rfl, gm_7 60 rfl rfl, ⟨by decide, by decide, by decide +kernel⟩, by decide⟩
theorem ml_11_194 : SLk cn_11 194 ⟨"SteamNationsModel", "isDigit", "(I)Z"⟩ prog_13_method_38_code 1 (some .boolean) 1 := ⟨gm_7 61 rfl rfl, gm_7 62 rfl rfl, gm_1 13 rfl rfl, gm_7 63 rfl rfl, ⟨by decide, by decide, by decide +kernel⟩, by decide⟩
theorem ml_11_197 : VLk cn_11 197 ⟨"SteamNationsModel", "wordOf", "(II)I"⟩ prog_13_method_39_code 8 (some .int) 11 2 := ⟨rfl, gm_7 64 rfl rfl, gm_7 66 rfl rfl, gw_mem 80 (by decide +kernel) rfl, gm_1 13 rfl rfl, gm_7 67 rfl rfl, ⟨by decide, by decide, by decide +kernel⟩, by decide⟩
theorem ml_11_204 : VLk cn_11 204 ⟨"SteamNationsModel", "fine", "()Z"⟩ prog_13_method_41_code 1 (some .boolean) 11 0 := ⟨rfl, gm_7 81 rfl rfl, gm_7 83 rfl rfl, gw_mem 84 (by decide +kernel) rfl, gm_1 13 rfl rfl, gm_7 84 rfl rfl, ⟨by decide, by decide, by decide +kernel⟩, by decide⟩
theorem ml_11_211 : VLk cn_11 211 ⟨"SteamNationsModel", "takes0", "(I)Z"⟩ prog_13_method_43_code 3 (some .boolean) 11 1 := ⟨rfl, gm_7 77 rfl rfl, gm_7 79 rfl rfl, gw_mem 83 (by decide +kernel) rfl, gm_1 13 rfl rfl, gm_7 80 rfl rfl, ⟨by decide, by decide, by decide +kernel⟩, by decide⟩
theorem ml_11_214 : VLk cn_11 214 ⟨"SteamNationsModel", "faults", "()V"⟩ prog_13_method_42_code 1 none 11 0 := ⟨rfl, gm_7 97 rfl rfl, gm_7 99 rfl rfl, gw_mem 88 (by decide +kernel) rfl, gm_1 13 rfl rfl, gm_7 100 rfl rfl, ⟨by decide, by decide, by decide +kernel⟩, by decide⟩
theorem ml_11_220 : VLk cn_11 220 ⟨"SteamNationsModel", "readSum", "(I)V"⟩ prog_13_method_54_code 2 none 11 1 := ⟨rfl, gm_7 85 rfl rfl, gm_7 87 rfl rfl, gw_mem 85 (by decide +kernel) rfl, gm_1 13 rfl rfl, gm_7 88 rfl rfl, ⟨by decide, by decide, by decide +kernel⟩, by decide⟩
theorem ml_11_224 : VLk cn_11 224 ⟨"SteamNationsModel", "must", "(I)V"⟩ prog_13_method_44_code 2 none 11 1 := ⟨rfl, gm_7 101 rfl rfl, gm_7 103 rfl rfl, gw_mem 89 (by decide +kernel) rfl, gm_1 13 rfl rfl, gm_7 104 rfl rfl, ⟨by decide, by decide, by decide +kernel⟩, by decide⟩
theorem ml_11_227 : VLk cn_11 227 ⟨"SteamNationsModel", "readTest", "(I)V"⟩ prog_13_method_51_code 2 none 11 1 := ⟨rfl, gm_7 113 rfl rfl, gm_7 115 rfl rfl, gw_mem 92 (by decide +kernel) rfl, gm_1 13 rfl rfl, gm_7 116 rfl rfl, ⟨by decide, by decide, by decide +kernel⟩, by decide⟩
theorem ml_11_230 : VLk cn_11 230 ⟨"SteamNationsModel", "mustNumber", "(II)V"⟩ prog_13_method_47_code 3 none 11 2 := ⟨rfl, gm_7 109 rfl rfl, gm_7 111 rfl rfl, gw_mem 91 (by decide +kernel) rfl, gm_1 13 rfl rfl, gm_7 112 rfl rfl, ⟨by decide, by decide, by decide +kernel⟩, by decide⟩
theorem ml_11_238 : VLk cn_11 238 ⟨"SteamNationsModel", "readOrder", "()V"⟩ prog_13_method_49_code 1 none 11 0 := ⟨rfl, gm_7 73 rfl rfl, gm_7 75 rfl rfl, gw_mem 82 (by decide +kernel) rfl, gm_1 13 rfl rfl, gm_7 76 rfl rfl, ⟨by decide, by decide, by decide +kernel⟩, by decide⟩
theorem ml_11_241 : VLk cn_11 241 ⟨"SteamNationsModel", "readClause", "()V"⟩ prog_13_method_48_code 1 none 11 0 := ⟨rfl, gm_7 125 rfl rfl, gm_7 127 rfl rfl, gw_mem 95 (by decide +kernel) rfl, gm_1 13 rfl rfl, gm_7 128 rfl rfl, ⟨by decide, by decide, by decide +kernel⟩, by decide⟩
theorem ml_11_244 : VLk cn_11 244 ⟨"SteamNationsModel", "readBoth", "(I)V"⟩ prog_13_method_52_code 2 none 11 1 := ⟨rfl, gm_7 117 rfl rfl, gm_7 119 rfl rfl, gw_mem 93 (by decide +kernel) rfl, gm_1 13 rfl rfl, gm_7 120 rfl rfl, ⟨by decide, by decide, by decide +kernel⟩, by decide⟩
theorem ml_11_247 : VLk cn_11 247 ⟨"SteamNationsModel", "readPlain", "(I)V"⟩ prog_13_method_53_code 4 none 11 1 := ⟨rfl, gm_7 121 rfl rfl, gm_7 123 rfl rfl, gw_mem 94 (by decide +kernel) rfl, gm_1 13 rfl rfl, gm_7 124 rfl rfl, ⟨by decide, by decide, by decide +kernel⟩, by decide⟩
theorem ml_11_250 : SLk cn_11 250 ⟨"SteamNationsModel", "sign", "(C)I"⟩ prog_13_method_46_code 1 (some .int) 1 := ⟨gm_6 192 rfl rfl, gm_6 193 rfl rfl, gm_1 13 rfl rfl, gm_6 194 rfl rfl, ⟨by decide, by decide, by decide +kernel⟩, by decide⟩
theorem ml_11_254 : VLk cn_11 254 ⟨"SteamNationsModel", "readTerm", "(I)V"⟩ prog_13_method_55_code 2 none 11 1 := ⟨rfl, gm_7 89 rfl rfl, gm_7 91 rfl rfl, gw_mem 86 (by decide +kernel) rfl, gm_1 13 rfl rfl, gm_7 92 rfl rfl, ⟨by decide, by decide, by decide +kernel⟩, by decide⟩
theorem ml_11_257 : VLk cn_11 257 ⟨"SteamNationsModel", "readPart", "(I)V"⟩ prog_13_method_56_code 3 none 11 1 := ⟨rfl, gm_7 93 rfl rfl, gm_7 95 rfl rfl, gw_mem 87 (by decide +kernel) rfl, gm_1 13 rfl rfl, gm_7 96 rfl rfl, ⟨by decide, by decide, by decide +kernel⟩, by decide⟩
theorem ml_11_266 : VLk cn_11 266 ⟨"SteamNationsModel", "leaf", "()V"⟩ prog_13_method_45_code 1 none 11 0 := ⟨rfl, gm_7 105 rfl rfl, gm_7 107 rfl rfl, gw_mem 90 (by decide +kernel) rfl, gm_1 13 rfl rfl, gm_7 108 rfl rfl, ⟨by decide, by decide, by decide +kernel⟩, by decide⟩
theorem ml_11_269 : VLk cn_11 269 ⟨"SteamNationsModel", "splits", "(I)V"⟩ prog_13_method_40_code 6 none 11 1 := ⟨rfl, gm_7 54 rfl rfl, gm_7 56 rfl rfl, gw_mem 79 (by decide +kernel) rfl, gm_1 13 rfl rfl, gm_7 57 rfl rfl, ⟨by decide, by decide, by decide +kernel⟩, by decide⟩
theorem ml_11_272 : VLk cn_11 272 ⟨"SteamNationsModel", "readOne", "()V"⟩ prog_13_method_50_code 1 none 11 0 := ⟨rfl, gm_7 69 rfl rfl, gm_7 71 rfl rfl, gw_mem 81 (by decide +kernel) rfl, gm_1 13 rfl rfl, gm_7 72 rfl rfl, ⟨by decide, by decide, by decide +kernel⟩, by decide⟩
theorem ml_11_275 : VLk cn_11 275 ⟨"SteamNationsModel", "reads", "()Z"⟩ prog_13_method_57_code 2 (some .boolean) 11 0 := ⟨rfl, gm_7 50 rfl rfl, gm_7 52 rfl rfl, gw_mem 78 (by decide +kernel) rfl, gm_1 13 rfl rfl, gm_7 53 rfl rfl, ⟨by decide, by decide, by decide +kernel⟩, by decide⟩
theorem ml_11_278 : VLk cn_11 278 ⟨"SteamNationsModel", "readsAs", "(Z)Z"⟩ prog_13_method_58_code 2 (some .boolean) 11 1 := ⟨rfl, gm_7 46 rfl rfl, gm_7 48 rfl rfl, gw_mem 77 (by decide +kernel) rfl, gm_1 13 rfl rfl, gm_7 49 rfl rfl, ⟨by decide, by decide, by decide +kernel⟩, by decide⟩
theorem ml_11_282 : VLk cn_11 282 ⟨"SteamNationsModel", "lays", "(I)V"⟩ prog_13_method_59_code 3 none 11 1 := ⟨rfl, gm_7 129 rfl rfl, gm_7 131 rfl rfl, gw_mem 96 (by decide +kernel) rfl, gm_1 13 rfl rfl, gm_7 132 rfl rfl, ⟨by decide, by decide, by decide +kernel⟩, by decide⟩
theorem ml_11_285 : VLk cn_11 285 ⟨"SteamNationsModel", "isLaw", "(I)Z"⟩ prog_13_method_62_code 2 (some .boolean) 11 1 := ⟨rfl, gm_7 141 rfl rfl, gm_7 143 rfl rfl, gw_mem 97 (by decide +kernel) rfl, gm_1 13 rfl rfl, gm_7 144 rfl rfl, ⟨by decide, by decide, by decide +kernel⟩, by decide⟩
theorem ml_11_294 : VLk cn_11 294 ⟨"SteamNationsModel", "codeAt", "(I)I"⟩ prog_13_method_64_code 2 (some .int) 11 1 := ⟨rfl, gm_6 176 rfl rfl, gm_6 178 rfl rfl, gw_mem 62 (by decide +kernel) rfl, gm_1 13 rfl rfl, gm_6 179 rfl rfl, ⟨by decide, by decide, by decide +kernel⟩, by decide⟩
theorem ml_11_304 : VLk cn_11 304 ⟨"SteamNationsModel", "termOf", "(Z)J"⟩ prog_13_method_68_code 7 (some .long) 11 1 := ⟨rfl, gm_6 184 rfl rfl, gm_6 186 rfl rfl, gw_mem 64 (by decide +kernel) rfl, gm_1 13 rfl rfl, gm_6 187 rfl rfl, ⟨by decide, by decide, by decide +kernel⟩, by decide⟩
theorem ml_11_308 : VLk cn_11 308 ⟨"SteamNationsModel", "bounded", "(JZ)J"⟩ prog_13_method_66_code 4 (some .long) 11 2 := ⟨rfl, gm_6 211 rfl rfl, gm_6 213 rfl rfl, gw_mem 70 (by decide +kernel) rfl, gm_1 13 rfl rfl, gm_6 214 rfl rfl, ⟨by decide, by decide, by decide +kernel⟩, by decide⟩
theorem ml_11_312 : VLk cn_11 312 ⟨"SteamNationsModel", "partOf", "(Z)J"⟩ prog_13_method_69_code 4 (some .long) 11 1 := ⟨rfl, gm_6 188 rfl rfl, gm_6 190 rfl rfl, gw_mem 65 (by decide +kernel) rfl, gm_1 13 rfl rfl, gm_6 191 rfl rfl, ⟨by decide, by decide, by decide +kernel⟩, by decide⟩
theorem ml_11_315 : VLk cn_11 315 ⟨"SteamNationsModel", "passes0", "(I)Z"⟩ prog_13_method_65_code 3 (some .boolean) 11 1 := ⟨rfl, gm_6 195 rfl rfl, gm_6 197 rfl rfl, gw_mem 66 (by decide +kernel) rfl, gm_1 13 rfl rfl, gm_6 198 rfl rfl, ⟨by decide, by decide, by decide +kernel⟩, by decide⟩
theorem ml_11_318 : VLk cn_11 318 ⟨"SteamNationsModel", "sumOf", "(Z)J"⟩ prog_13_method_67_code 7 (some .long) 11 1 := ⟨rfl, gm_6 180 rfl rfl, gm_6 182 rfl rfl, gw_mem 63 (by decide +kernel) rfl, gm_1 13 rfl rfl, gm_6 183 rfl rfl, ⟨by decide, by decide, by decide +kernel⟩, by decide⟩
theorem ml_11_324 : VLk cn_11 324 ⟨"SteamNationsModel", "orderValue", "(II)I"⟩ prog_13_method_70_code 3 (some .int) 11 2 := ⟨rfl, gm_6 199 rfl rfl, gm_6 201 rfl rfl, gw_mem 67 (by decide +kernel) rfl, gm_1 13 rfl rfl, gm_6 202 rfl rfl, ⟨by decide, by decide, by decide +kernel⟩, by decide⟩
theorem ml_11_333 : VLk cn_11 333 ⟨"SteamNationsModel", "insideMany", "()I"⟩ prog_13_method_78_code 3 (some .int) 11 0 := ⟨rfl, gm_6 203 rfl rfl, gm_6 205 rfl rfl, gw_mem 68 (by decide +kernel) rfl, gm_1 13 rfl rfl, gm_6 206 rfl rfl, ⟨by decide, by decide, by decide +kernel⟩, by decide⟩
theorem ml_11_336 : VLk cn_11 336 ⟨"SteamNationsModel", "pleasedMany", "()I"⟩ prog_13_method_79_code 3 (some .int) 11 0 := ⟨rfl, gm_6 207 rfl rfl, gm_6 209 rfl rfl, gw_mem 69 (by decide +kernel) rfl, gm_1 13 rfl rfl, gm_6 210 rfl rfl, ⟨by decide, by decide, by decide +kernel⟩, by decide⟩
theorem ml_11_339 : VLk cn_11 339 ⟨"SteamNationsModel", "bothOf", "(Z)Z"⟩ prog_13_method_72_code 4 (some .boolean) 11 1 := ⟨rfl, gm_6 221 rfl rfl, gm_6 223 rfl rfl, gw_mem 72 (by decide +kernel) rfl, gm_1 13 rfl rfl, gm_6 224 rfl rfl, ⟨by decide, by decide, by decide +kernel⟩, by decide⟩
theorem ml_11_342 : VLk cn_11 342 ⟨"SteamNationsModel", "plainOf", "(Z)Z"⟩ prog_13_method_73_code 3 (some .boolean) 11 1 := ⟨rfl, gm_6 225 rfl rfl, gm_6 227 rfl rfl, gw_mem 73 (by decide +kernel) rfl, gm_1 13 rfl rfl, gm_6 228 rfl rfl, ⟨by decide, by decide, by decide +kernel⟩, by decide⟩
theorem ml_11_345 : VLk cn_11 345 ⟨"SteamNationsModel", "positiveOf", "(Z)Z"⟩ prog_13_method_74_code 7 (some .boolean) 11 1 := ⟨rfl, gm_6 229 rfl rfl, gm_6 231 rfl rfl, gw_mem 74 (by decide +kernel) rfl, gm_1 13 rfl rfl, gm_6 232 rfl rfl, ⟨by decide, by decide, by decide +kernel⟩, by decide⟩
theorem ml_11_348 : VLk cn_11 348 ⟨"SteamNationsModel", "testOf", "(Z)Z"⟩ prog_13_method_71_code 4 (some .boolean) 11 1 := ⟨rfl, gm_6 217 rfl rfl, gm_6 219 rfl rfl, gw_mem 71 (by decide +kernel) rfl, gm_1 13 rfl rfl, gm_6 220 rfl rfl, ⟨by decide, by decide, by decide +kernel⟩, by decide⟩
theorem ml_11_351 : VLk cn_11 351 ⟨"SteamNationsModel", "setsAsked", "(II)V"⟩ prog_13_method_75_code 3 none 11 2 := ⟨rfl, gm_6 171 rfl rfl, gm_6 173 rfl rfl, gw_mem 61 (by decide +kernel) rfl, gm_1 13 rfl rfl, gm_6 174 rfl rfl, ⟨by decide, by decide, by decide +kernel⟩, by decide⟩
theorem ml_11_358 : SLk cn_11 358 ⟨"SteamNationsModel", "lesser", "(II)I"⟩ prog_13_method_2_code 2 (some .int) 2 := ⟨gm_7 197 rfl rfl, gm_7 198 rfl rfl, gm_1 13 rfl rfl, gm_7 199 rfl rfl, ⟨by decide, by decide, by decide +kernel⟩, by decide⟩
theorem ml_11_361 : VLk cn_11 361 ⟨"SteamNationsModel", "givesAll", "(I)V"⟩ prog_13_method_80_code 7 none 11 1 := ⟨rfl, gm_7 193 rfl rfl, gm_7 195 rfl rfl, gw_mem 105 (by decide +kernel) rfl, gm_1 13 rfl rfl, gm_7 196 rfl rfl, ⟨by decide, by decide, by decide +kernel⟩, by decide⟩
theorem ml_11_364 : VLk cn_11 364 ⟨"SteamNationsModel", "minutePasses", "()V"⟩ prog_13_method_81_code 2 none 11 0 := ⟨rfl, gm_7 189 rfl rfl, gm_7 191 rfl rfl, gw_mem 104 (by decide +kernel) rfl, gm_1 13 rfl rfl, gm_7 192 rfl rfl, ⟨by decide, by decide, by decide +kernel⟩, by decide⟩
theorem ml_11_367 : VLk cn_11 367 ⟨"SteamNationsModel", "keeps", "(I)V"⟩ prog_13_method_83_code 4 none 11 1 := ⟨rfl, gm_7 157 rfl rfl, gm_7 159 rfl rfl, gw_mem 99 (by decide +kernel) rfl, gm_1 13 rfl rfl, gm_7 160 rfl rfl, ⟨by decide, by decide, by decide +kernel⟩, by decide⟩
theorem ml_11_370 : VLk cn_11 370 ⟨"SteamNationsModel", "seatsKept", "(II)I"⟩ prog_13_method_86_code 3 (some .int) 11 2 := ⟨rfl, gm_7 153 rfl rfl, gm_7 155 rfl rfl, gw_mem 98 (by decide +kernel) rfl, gm_1 13 rfl rfl, gm_7 156 rfl rfl, ⟨by decide, by decide, by decide +kernel⟩, by decide⟩
theorem ml_11_373 : VLk cn_11 373 ⟨"SteamNationsModel", "goodOr", "(I)I"⟩ prog_13_method_85_code 2 (some .int) 11 1 := ⟨rfl, gm_7 161 rfl rfl, gm_7 163 rfl rfl, gw_mem 100 (by decide +kernel) rfl, gm_1 13 rfl rfl, gm_7 164 rfl rfl, ⟨by decide, by decide, by decide +kernel⟩, by decide⟩
theorem ml_11_376 : VLk cn_11 376 ⟨"SteamNationsModel", "outKept", "(I)I"⟩ prog_13_method_87_code 3 (some .int) 11 1 := ⟨rfl, gm_7 169 rfl rfl, gm_7 171 rfl rfl, gw_mem 101 (by decide +kernel) rfl, gm_1 13 rfl rfl, gm_7 172 rfl rfl, ⟨by decide, by decide, by decide +kernel⟩, by decide⟩
theorem ml_11_379 : VLk cn_11 379 ⟨"SteamNationsModel", "swapsKept", "(II)I"⟩ prog_13_method_88_code 4 (some .int) 11 2 := ⟨rfl, gm_7 177 rfl rfl, gm_7 179 rfl rfl, gw_mem 102 (by decide +kernel) rfl, gm_1 13 rfl rfl, gm_7 180 rfl rfl, ⟨by decide, by decide, by decide +kernel⟩, by decide⟩
theorem ml_11_382 : VLk cn_11 382 ⟨"SteamNationsModel", "passesKept", "()I"⟩ prog_13_method_89_code 1 (some .int) 11 0 := ⟨rfl, gm_7 185 rfl rfl, gm_7 187 rfl rfl, gw_mem 103 (by decide +kernel) rfl, gm_1 13 rfl rfl, gm_7 188 rfl rfl, ⟨by decide, by decide, by decide +kernel⟩, by decide⟩
theorem ml_11_385 : VLk cn_11 385 ⟨"SteamNationsModel", "laysAside", "(I)V"⟩ prog_13_method_13_code 3 none 11 1 := ⟨rfl, gm_7 204 rfl rfl, gm_7 206 rfl rfl, gw_mem 106 (by decide +kernel) rfl, gm_1 13 rfl rfl, gm_7 207 rfl rfl, ⟨by decide, by decide, by decide +kernel⟩, by decide⟩
theorem ml_11_388 : VLk cn_11 388 ⟨"SteamNationsModel", "passMinutes", "(I)V"⟩ prog_13_method_82_code 3 none 11 1 := ⟨rfl, gm_7 208 rfl rfl, gm_7 210 rfl rfl, gw_mem 107 (by decide +kernel) rfl, gm_1 13 rfl rfl, gm_7 211 rfl rfl, ⟨by decide, by decide, by decide +kernel⟩, by decide⟩
theorem ml_11_391 : VLk cn_11 391 ⟨"SteamNationsModel", "takesBack", "(I)V"⟩ prog_13_method_14_code 3 none 11 1 := ⟨rfl, gm_7 212 rfl rfl, gm_7 214 rfl rfl, gw_mem 108 (by decide +kernel) rfl, gm_1 13 rfl rfl, gm_7 215 rfl rfl, ⟨by decide, by decide, by decide +kernel⟩, by decide⟩
theorem ml_11_394 : VLk cn_11 394 ⟨"SteamNationsModel", "areOne", "()Z"⟩ prog_13_method_96_code 3 (some .boolean) 11 0 := ⟨rfl, gm_7 224 rfl rfl, gm_7 226 rfl rfl, gw_mem 109 (by decide +kernel) rfl, gm_1 13 rfl rfl, gm_7 227 rfl rfl, ⟨by decide, by decide, by decide +kernel⟩, by decide⟩
theorem ml_11_403 : SLk cn_11 403 ⟨"SteamNationsModel", "isIn", "(II)Z"⟩ prog_13_method_7_code 2 (some .boolean) 2 := ⟨gm_8 4 rfl rfl, gm_8 5 rfl rfl, gm_1 13 rfl rfl, gm_8 6 rfl rfl, ⟨by decide, by decide, by decide +kernel⟩, by decide⟩
theorem ml_11_406 : VLk cn_11 406 ⟨"SteamNationsModel", "laysHolders", "()V"⟩ prog_13_method_98_code 3 none 11 0 := ⟨rfl, gm_7 236 rfl rfl, gm_7 238 rfl rfl, gw_mem 111 (by decide +kernel) rfl, gm_1 13 rfl rfl, gm_7 239 rfl rfl, ⟨by decide, by decide, by decide +kernel⟩, by decide⟩
theorem ml_11_409 : VLk cn_11 409 ⟨"SteamNationsModel", "seatsAll", "(I)V"⟩ prog_13_method_99_code 8 none 11 1 := ⟨rfl, gm_8 0 rfl rfl, gm_8 2 rfl rfl, gw_mem 112 (by decide +kernel) rfl, gm_1 13 rfl rfl, gm_8 3 rfl rfl, ⟨by decide, by decide, by decide +kernel⟩, by decide⟩
theorem ml_11_412 : SLk cn_11 412 ⟨"SteamNationsModel", "greater", "(II)I"⟩ prog_13_method_3_code 2 (some .int) 2 := ⟨gm_8 7 rfl rfl, gm_8 8 rfl rfl, gm_1 13 rfl rfl, gm_8 9 rfl rfl, ⟨by decide, by decide, by decide +kernel⟩, by decide⟩
theorem ml_11_415 : VLk cn_11 415 ⟨"SteamNationsModel", "laysPleased", "(I)I"⟩ prog_13_method_101_code 4 (some .int) 11 1 := ⟨rfl, gm_7 232 rfl rfl, gm_7 234 rfl rfl, gw_mem 110 (by decide +kernel) rfl, gm_1 13 rfl rfl, gm_7 235 rfl rfl, ⟨by decide, by decide, by decide +kernel⟩, by decide⟩
theorem ml_11_418 : VLk cn_11 418 ⟨"SteamNationsModel", "swapsTwo", "(II)V"⟩ prog_13_method_103_code 4 none 11 2 := ⟨rfl, gm_8 22 rfl rfl, gm_8 24 rfl rfl, gw_mem 115 (by decide +kernel) rfl, gm_1 13 rfl rfl, gm_8 25 rfl rfl, ⟨by decide, by decide, by decide +kernel⟩, by decide⟩
theorem ml_11_421 : VLk cn_11 421 ⟨"SteamNationsModel", "seatingNow", "()I"⟩ prog_13_method_100_code 5 (some .int) 11 0 := ⟨rfl, gm_8 26 rfl rfl, gm_8 28 rfl rfl, gw_mem 116 (by decide +kernel) rfl, gm_1 13 rfl rfl, gm_8 29 rfl rfl, ⟨by decide, by decide, by decide +kernel⟩, by decide⟩
theorem ml_11_424 : VLk cn_11 424 ⟨"SteamNationsModel", "swapped", "(II)I"⟩ prog_13_method_104_code 6 (some .int) 11 2 := ⟨rfl, gm_8 18 rfl rfl, gm_8 20 rfl rfl, gw_mem 114 (by decide +kernel) rfl, gm_1 13 rfl rfl, gm_8 21 rfl rfl, ⟨by decide, by decide, by decide +kernel⟩, by decide⟩
theorem ml_11_427 : VLk cn_11 427 ⟨"SteamNationsModel", "laysSwaps", "(I)V"⟩ prog_13_method_105_code 7 none 11 1 := ⟨rfl, gm_8 14 rfl rfl, gm_8 16 rfl rfl, gw_mem 113 (by decide +kernel) rfl, gm_1 13 rfl rfl, gm_8 17 rfl rfl, ⟨by decide, by decide, by decide +kernel⟩, by decide⟩
theorem ml_11_430 : VLk cn_11 430 ⟨"SteamNationsModel", "firstTwo", "(I)I"⟩ prog_13_method_106_code 5 (some .int) 11 1 := ⟨rfl, gm_8 30 rfl rfl, gm_8 32 rfl rfl, gw_mem 117 (by decide +kernel) rfl, gm_1 13 rfl rfl, gm_8 33 rfl rfl, ⟨by decide, by decide, by decide +kernel⟩, by decide⟩
theorem ml_11_433 : VLk cn_11 433 ⟨"SteamNationsModel", "isSoAt", "(I)Z"⟩ prog_13_method_110_code 4 (some .boolean) 11 1 := ⟨rfl, gm_8 50 rfl rfl, gm_8 52 rfl rfl, gw_mem 119 (by decide +kernel) rfl, gm_1 13 rfl rfl, gm_8 53 rfl rfl, ⟨by decide, by decide, by decide +kernel⟩, by decide⟩
theorem ml_11_436 : VLk cn_11 436 ⟨"SteamNationsModel", "laysSat", "(I)I"⟩ prog_13_method_111_code 7 (some .int) 11 1 := ⟨rfl, gm_8 46 rfl rfl, gm_8 48 rfl rfl, gw_mem 118 (by decide +kernel) rfl, gm_1 13 rfl rfl, gm_8 49 rfl rfl, ⟨by decide, by decide, by decide +kernel⟩, by decide⟩
theorem ml_11_439 : VLk cn_11 439 ⟨"SteamNationsModel", "mostAlike", "(I)I"⟩ prog_13_method_113_code 3 (some .int) 11 1 := ⟨rfl, gm_8 58 rfl rfl, gm_8 60 rfl rfl, gw_mem 120 (by decide +kernel) rfl, gm_1 13 rfl rfl, gm_8 61 rfl rfl, ⟨by decide, by decide, by decide +kernel⟩, by decide⟩
theorem ml_11_442 : VLk cn_11 442 ⟨"SteamNationsModel", "common", "(II)I"⟩ prog_13_method_115_code 5 (some .int) 11 2 := ⟨rfl, gm_8 73 rfl rfl, gm_8 75 rfl rfl, gw_mem 122 (by decide +kernel) rfl, gm_1 13 rfl rfl, gm_8 76 rfl rfl, ⟨by decide, by decide, by decide +kernel⟩, by decide⟩
theorem ml_11_445 : SLk cn_11 445 ⟨"SteamNationsModel", "ones", "(I)I"⟩ prog_13_method_8_code 3 (some .int) 1 := ⟨gm_8 66 rfl rfl, gm_8 67 rfl rfl, gm_1 13 rfl rfl, gm_8 68 rfl rfl, ⟨by decide, by decide, by decide +kernel⟩, by decide⟩
theorem ml_11_448 : VLk cn_11 448 ⟨"SteamNationsModel", "isTreaty", "(II)Z"⟩ prog_13_method_116_code 6 (some .boolean) 11 2 := ⟨rfl, gm_8 69 rfl rfl, gm_8 71 rfl rfl, gw_mem 121 (by decide +kernel) rfl, gm_1 13 rfl rfl, gm_8 72 rfl rfl, ⟨by decide, by decide, by decide +kernel⟩, by decide⟩
theorem ml_11_451 : VLk cn_11 451 ⟨"SteamNationsModel", "drops", "()V"⟩ prog_13_method_118_code 3 none 11 0 := ⟨rfl, gm_8 81 rfl rfl, gm_8 83 rfl rfl, gw_mem 123 (by decide +kernel) rfl, gm_1 13 rfl rfl, gm_8 84 rfl rfl, ⟨by decide, by decide, by decide +kernel⟩, by decide⟩
theorem ml_11_461 : VLk cn_11 461 ⟨"SteamNationsModel", "runs", "(I)Z"⟩ prog_13_method_127_code 5 (some .boolean) 11 1 := ⟨rfl, gm_8 103 rfl rfl, gm_8 105 rfl rfl, gw_mem 124 (by decide +kernel) rfl, gm_1 13 rfl rfl, gm_8 106 rfl rfl, ⟨by decide, by decide, by decide +kernel⟩, by decide⟩
theorem ml_11_478 : SLk cn_11 478 ⟨"SteamNationsModel", "small", "(J)I"⟩ prog_13_method_125_code 2 (some .int) 1 := ⟨gm_8 115 rfl rfl, gm_8 116 rfl rfl, gm_1 13 rfl rfl, gm_8 117 rfl rfl, ⟨by decide, by decide, by decide +kernel⟩, by decide⟩
theorem ml_11_482 : VLk cn_11 482 ⟨"SteamNationsModel", "goesAlong", "(IZ)V"⟩ prog_13_method_124_code 5 none 11 2 := ⟨rfl, gm_8 107 rfl rfl, gm_8 109 rfl rfl, gw_mem 125 (by decide +kernel) rfl, gm_1 13 rfl rfl, gm_8 110 rfl rfl, ⟨by decide, by decide, by decide +kernel⟩, by decide⟩
theorem ml_11_486 : VLk cn_11 486 ⟨"SteamNationsModel", "obeys", "()I"⟩ prog_13_method_126_code 3 (some .int) 11 0 := ⟨rfl, gm_8 111 rfl rfl, gm_8 113 rfl rfl, gw_mem 126 (by decide +kernel) rfl, gm_1 13 rfl rfl, gm_8 114 rfl rfl, ⟨by decide, by decide, by decide +kernel⟩, by decide⟩
theorem ml_11_498 : VLk cn_11 498 ⟨"SteamNationsModel", "draws", "(I)I"⟩ prog_13_method_128_code 2 (some .int) 11 1 := ⟨rfl, gm_8 127 rfl rfl, gm_8 129 rfl rfl, gw_mem 128 (by decide +kernel) rfl, gm_1 13 rfl rfl, gm_8 130 rfl rfl, ⟨by decide, by decide, by decide +kernel⟩, by decide⟩
theorem ml_11_501 : VLk cn_11 501 ⟨"SteamNationsModel", "minuteIsDrawn", "()V"⟩ prog_13_method_129_code 4 none 11 0 := ⟨rfl, gm_8 123 rfl rfl, gm_8 125 rfl rfl, gw_mem 127 (by decide +kernel) rfl, gm_1 13 rfl rfl, gm_8 126 rfl rfl, ⟨by decide, by decide, by decide +kernel⟩, by decide⟩
theorem ml_11_504 : VLk cn_11 504 ⟨"SteamNationsModel", "allOf", "(I)I"⟩ prog_13_method_132_code 4 (some .int) 11 1 := ⟨rfl, gm_8 142 rfl rfl, gm_8 144 rfl rfl, gw_mem 129 (by decide +kernel) rfl, gm_1 13 rfl rfl, gm_8 145 rfl rfl, ⟨by decide, by decide, by decide +kernel⟩, by decide⟩
theorem ml_JString_495 : SLk "java/lang/String" 495 ⟨"java/lang/StringLatin1", "charAt", "([BI)C"⟩ prog_18_method_2_code 2 (some .char) 2 := ⟨gm_3 103 rfl rfl, gm_3 104 rfl rfl, gm_1 16 rfl rfl, gm_3 105 rfl rfl, ⟨by decide, by decide, by decide +kernel⟩, by decide⟩
theorem ml_JString_498 : SLk "java/lang/String" 498 ⟨"java/lang/StringUTF16", "charAt", "([BI)C"⟩ prog_19_method_83_code 2 (some .char) 2 := ⟨gm_3 114 rfl rfl, gm_3 115 rfl rfl, gm_1 18 rfl rfl, gm_3 116 rfl rfl, ⟨by decide, by decide, by decide +kernel⟩, by decide⟩
theorem ml_JString_1059 : SLk "java/lang/String" 1059 ⟨"jdk/internal/util/Preconditions", "checkIndex", "(IILjava/util/function/BiFunction;)I"⟩ prog_22_method_11_code 3 (some .int) 3 := ⟨gm_3 111 rfl rfl, gm_3 112 rfl rfl, gm_1 17 rfl rfl, gm_3 113 rfl rfl, ⟨by decide, by decide, by decide +kernel⟩, by decide⟩
theorem ml_JStringLatin1_9 : SLk "java/lang/StringLatin1" 9 ⟨"java/lang/String", "checkIndex", "(II)V"⟩ prog_17_method_155_code 2 none 2 := ⟨gm_3 106 rfl rfl, gm_3 107 rfl rfl, gm_1 15 rfl rfl, gm_3 108 rfl rfl, ⟨by decide, by decide, by decide +kernel⟩, by decide⟩
theorem ml_JStringUTF16_48 : SLk "java/lang/StringUTF16" 48 ⟨"java/lang/StringUTF16", "length", "([B)I"⟩ prog_19_method_6_code 1 (some .int) 1 := ⟨gm_3 120 rfl rfl, gm_3 121 rfl rfl, gm_1 18 rfl rfl, gm_3 122 rfl rfl, ⟨by decide, by decide, by decide +kernel⟩, by decide⟩
theorem ml_JStringUTF16_67 : SLk "java/lang/StringUTF16" 67 ⟨"java/lang/StringUTF16", "checkIndex", "(I[B)V"⟩ prog_19_method_91_code 2 none 2 := ⟨gm_3 117 rfl rfl, gm_3 118 rfl rfl, gm_1 18 rfl rfl, gm_3 119 rfl rfl, ⟨by decide, by decide, by decide +kernel⟩, by decide⟩
theorem ml_JStringUTF16_71 : SLk "java/lang/StringUTF16" 71 ⟨"java/lang/StringUTF16", "getChar", "([BI)C"⟩ prog_19_method_5_code 2 (some .char) 2 := ⟨gm_3 124 rfl rfl, gm_3 125 rfl rfl, gm_1 18 rfl rfl, gm_3 126 rfl rfl, ⟨by decide, by decide, by decide +kernel⟩, by decide⟩
theorem ml_JStringUTF16_414 : SLk "java/lang/StringUTF16" 414 ⟨"java/lang/String", "checkIndex", "(II)V"⟩ prog_17_method_155_code 2 none 2 := ⟨gm_3 123 rfl rfl, gm_3 107 rfl rfl, gm_1 15 rfl rfl, gm_3 108 rfl rfl, ⟨by decide, by decide, by decide +kernel⟩, by decide⟩
theorem ml_JArrays_304 : SLk "java/util/Arrays" 304 ⟨"java/lang/Math", "min", "(II)I"⟩ prog_16_method_69_code 2 (some .int) 2 := ⟨gm_4 2 rfl rfl, gm_2 228 rfl rfl, gm_1 14 rfl rfl, gm_2 229 rfl rfl, ⟨by decide, by decide, by decide +kernel⟩, by decide⟩
theorem kc_10_335 : Cond.constant cn_10 335 (1000000) ∈ gw := gm_5 102 rfl rfl
theorem kc_10_339 : Cond.constantLong cn_10 339 (-1) ∈ gw := gm_5 112 rfl rfl
theorem kc_10_344 : Cond.constantLong cn_10 344 (1000000000000) ∈ gw := gm_5 116 rfl rfl
theorem kc_10_346 : Cond.constantLong cn_10 346 (10) ∈ gw := gm_5 117 rfl rfl
theorem kc_10_386 : Cond.constant cn_10 386 (1000003) ∈ gw := gm_5 131 rfl rfl
theorem kc_0_86 : Cond.constant cn_0 86 (-2147483648) ∈ gw := gm_4 52 rfl rfl
theorem kc_2_39 : Cond.constant cn_2 39 (-2147483648) ∈ gw := gm_2 233 rfl rfl
theorem kc_2_48 : Cond.constantLong cn_2 48 (1000000000) ∈ gw := gm_3 1 rfl rfl
theorem kc_2_50 : Cond.constantLong cn_2 50 (-1000000000) ∈ gw := gm_3 2 rfl rfl
theorem kc_8_54 : Cond.constant cn_8 54 (-2147483648) ∈ gw := gm_3 28 rfl rfl
theorem kc_11_200 : Cond.constant cn_11 200 (1000000) ∈ gw := gm_7 68 rfl rfl
theorem kc_11_297 : Cond.constantLong cn_11 297 (1000000000) ∈ gw := gm_6 215 rfl rfl
theorem kc_11_299 : Cond.constantLong cn_11 299 (-1000000000) ∈ gw := gm_6 216 rfl rfl
theorem kc_11_354 : Cond.constantLong cn_11 354 (-1) ∈ gw := gm_6 175 rfl rfl
theorem kc_11_356 : Cond.constantLong cn_11 356 (9) ∈ gw := gm_6 233 rfl rfl
theorem kc_11_454 : Cond.constantLong cn_11 454 (1000000000000) ∈ gw := gm_8 89 rfl rfl
theorem kc_11_456 : Cond.constantLong cn_11 456 (10) ∈ gw := gm_8 90 rfl rfl
theorem kc_11_476 : Cond.constantLong cn_11 476 (1000000) ∈ gw := gm_8 118 rfl rfl
theorem kc_11_489 : Cond.constantLong cn_11 489 (1103) ∈ gw := gm_8 131 rfl rfl
theorem kc_11_494 : Cond.constantLong cn_11 494 (12345) ∈ gw := gm_8 132 rfl rfl
theorem kc_11_496 : Cond.constantLong cn_11 496 (1000003) ∈ gw := gm_8 133 rfl rfl
theorem kc_J_265 : Cond.constant "java/lang/Integer" 265 (1431655765) ∈ gw := gm_5 85 rfl rfl
theorem kc_J_266 : Cond.constant "java/lang/Integer" 266 (858993459) ∈ gw := gm_5 86 rfl rfl
theorem kc_J_267 : Cond.constant "java/lang/Integer" 267 (252645135) ∈ gw := gm_5 87 rfl rfl
theorem ic_m1 : Int32.ofInt (-1) = (-1 : Int32) := by decide
theorem ic_0 : Int32.ofInt (0) = (0 : Int32) := by decide
theorem ic_1 : Int32.ofInt (1) = (1 : Int32) := by decide
theorem ic_4 : Int32.ofInt (4) = (4 : Int32) := by decide
theorem bp_m3 : (Int8.ofInt (-3)).toInt32 = (-3 : Int32) := by decide
theorem ic_2 : Int32.ofInt (2) = (2 : Int32) := by decide
theorem ic_3 : Int32.ofInt (3) = (3 : Int32) := by decide
theorem bp_6 : (Int8.ofInt (6)).toInt32 = (6 : Int32) := by decide
theorem bp_8 : (Int8.ofInt (8)).toInt32 = (8 : Int32) := by decide
theorem bp_9 : (Int8.ofInt (9)).toInt32 = (9 : Int32) := by decide
theorem bp_10 : (Int8.ofInt (10)).toInt32 = (10 : Int32) := by decide
theorem bp_11 : (Int8.ofInt (11)).toInt32 = (11 : Int32) := by decide
theorem bp_12 : (Int8.ofInt (12)).toInt32 = (12 : Int32) := by decide
theorem bp_18 : (Int8.ofInt (18)).toInt32 = (18 : Int32) := by decide
theorem bp_m5 : (Int8.ofInt (-5)).toInt32 = (-5 : Int32) := by decide
theorem bp_24 : (Int8.ofInt (24)).toInt32 = (24 : Int32) := by decide
theorem bp_64 : (Int8.ofInt (64)).toInt32 = (64 : Int32) := by decide
theorem ic_5 : Int32.ofInt (5) = (5 : Int32) := by decide
theorem bp_m2 : (Int8.ofInt (-2)).toInt32 = (-2 : Int32) := by decide
theorem sp_999 : (Int16.ofInt (999)).toInt32 = (999 : Int32) := by decide
theorem sp_416 : (Int16.ofInt (416)).toInt32 = (416 : Int32) := by decide
theorem bp_26 : (Int8.ofInt (26)).toInt32 = (26 : Int32) := by decide
theorem bp_16 : (Int8.ofInt (16)).toInt32 = (16 : Int32) := by decide
theorem sp_401 : (Int16.ofInt (401)).toInt32 = (401 : Int32) := by decide
theorem sp_800 : (Int16.ofInt (800)).toInt32 = (800 : Int32) := by decide
theorem bp_72 : (Int8.ofInt (72)).toInt32 = (72 : Int32) := by decide
theorem bp_29 : (Int8.ofInt (29)).toInt32 = (29 : Int32) := by decide
theorem bp_59 : (Int8.ofInt (59)).toInt32 = (59 : Int32) := by decide
theorem sp_400 : (Int16.ofInt (400)).toInt32 = (400 : Int32) := by decide
theorem bp_32 : (Int8.ofInt (32)).toInt32 = (32 : Int32) := by decide
theorem bp_28 : (Int8.ofInt (28)).toInt32 = (28 : Int32) := by decide
theorem bp_100 : (Int8.ofInt (100)).toInt32 = (100 : Int32) := by decide
theorem bp_97 : (Int8.ofInt (97)).toInt32 = (97 : Int32) := by decide
theorem bp_122 : (Int8.ofInt (122)).toInt32 = (122 : Int32) := by decide
theorem bp_48 : (Int8.ofInt (48)).toInt32 = (48 : Int32) := by decide
theorem bp_57 : (Int8.ofInt (57)).toInt32 = (57 : Int32) := by decide
theorem bp_27 : (Int8.ofInt (27)).toInt32 = (27 : Int32) := by decide
theorem sp_1001 : (Int16.ofInt (1001)).toInt32 = (1001 : Int32) := by decide
theorem bp_13 : (Int8.ofInt (13)).toInt32 = (13 : Int32) := by decide
theorem bp_14 : (Int8.ofInt (14)).toInt32 = (14 : Int32) := by decide
theorem bp_15 : (Int8.ofInt (15)).toInt32 = (15 : Int32) := by decide
theorem bp_17 : (Int8.ofInt (17)).toInt32 = (17 : Int32) := by decide
theorem bp_19 : (Int8.ofInt (19)).toInt32 = (19 : Int32) := by decide
theorem bp_20 : (Int8.ofInt (20)).toInt32 = (20 : Int32) := by decide
theorem bp_21 : (Int8.ofInt (21)).toInt32 = (21 : Int32) := by decide
theorem bp_22 : (Int8.ofInt (22)).toInt32 = (22 : Int32) := by decide
theorem bp_23 : (Int8.ofInt (23)).toInt32 = (23 : Int32) := by decide
theorem bp_25 : (Int8.ofInt (25)).toInt32 = (25 : Int32) := by decide
theorem bp_40 : (Int8.ofInt (40)).toInt32 = (40 : Int32) := by decide
theorem bp_41 : (Int8.ofInt (41)).toInt32 = (41 : Int32) := by decide
theorem bp_60 : (Int8.ofInt (60)).toInt32 = (60 : Int32) := by decide
theorem bp_7 : (Int8.ofInt (7)).toInt32 = (7 : Int32) := by decide
theorem bp_62 : (Int8.ofInt (62)).toInt32 = (62 : Int32) := by decide
theorem bp_61 : (Int8.ofInt (61)).toInt32 = (61 : Int32) := by decide
theorem bp_43 : (Int8.ofInt (43)).toInt32 = (43 : Int32) := by decide
theorem bp_45 : (Int8.ofInt (45)).toInt32 = (45 : Int32) := by decide
theorem bp_42 : (Int8.ofInt (42)).toInt32 = (42 : Int32) := by decide
theorem bp_47 : (Int8.ofInt (47)).toInt32 = (47 : Int32) := by decide
theorem bp_37 : (Int8.ofInt (37)).toInt32 = (37 : Int32) := by decide
theorem bp_91 : (Int8.ofInt (91)).toInt32 = (91 : Int32) := by decide
theorem bp_93 : (Int8.ofInt (93)).toInt32 = (93 : Int32) := by decide
theorem bp_50 : (Int8.ofInt (50)).toInt32 = (50 : Int32) := by decide
theorem sp_1000 : (Int16.ofInt (1000)).toInt32 = (1000 : Int32) := by decide
theorem sp_720 : (Int16.ofInt (720)).toInt32 = (720 : Int32) := by decide
theorem sp_7200 : (Int16.ofInt (7200)).toInt32 = (7200 : Int32) := by decide
theorem bp_m6 : (Int8.ofInt (-6)).toInt32 = (-6 : Int32) := by decide
theorem bp_99 : (Int8.ofInt (99)).toInt32 = (99 : Int32) := by decide
theorem sp_255 : (Int16.ofInt (255)).toInt32 = (255 : Int32) := by decide
theorem sp_1103 : (Int16.ofInt (1103)).toInt32 = (1103 : Int32) := by decide
theorem sp_12345 : (Int16.ofInt (12345)).toInt32 = (12345 : Int32) := by decide
theorem sp_5662 : (Int16.ofInt (5662)).toInt32 = (5662 : Int32) := by decide
theorem sp_11324 : (Int16.ofInt (11324)).toInt32 = (11324 : Int32) := by decide
theorem sp_144 : (Int16.ofInt (144)).toInt32 = (144 : Int32) := by decide
theorem bp_112 : (Int8.ofInt (112)).toInt32 = (112 : Int32) := by decide
theorem bp_115 : (Int8.ofInt (115)).toInt32 = (115 : Int32) := by decide
theorem bp_101 : (Int8.ofInt (101)).toInt32 = (101 : Int32) := by decide
theorem bp_107 : (Int8.ofInt (107)).toInt32 = (107 : Int32) := by decide
theorem bp_108 : (Int8.ofInt (108)).toInt32 = (108 : Int32) := by decide
theorem bp_118 : (Int8.ofInt (118)).toInt32 = (118 : Int32) := by decide
theorem bp_105 : (Int8.ofInt (105)).toInt32 = (105 : Int32) := by decide
theorem bp_102 : (Int8.ofInt (102)).toInt32 = (102 : Int32) := by decide
theorem bp_111 : (Int8.ofInt (111)).toInt32 = (111 : Int32) := by decide
theorem bp_114 : (Int8.ofInt (114)).toInt32 = (114 : Int32) := by decide
theorem bp_110 : (Int8.ofInt (110)).toInt32 = (110 : Int32) := by decide
theorem bp_30 : (Int8.ofInt (30)).toInt32 = (30 : Int32) := by decide
theorem bp_31 : (Int8.ofInt (31)).toInt32 = (31 : Int32) := by decide
theorem bp_116 : (Int8.ofInt (116)).toInt32 = (116 : Int32) := by decide
theorem bp_33 : (Int8.ofInt (33)).toInt32 = (33 : Int32) := by decide
theorem bp_34 : (Int8.ofInt (34)).toInt32 = (34 : Int32) := by decide
theorem bp_35 : (Int8.ofInt (35)).toInt32 = (35 : Int32) := by decide
theorem bp_36 : (Int8.ofInt (36)).toInt32 = (36 : Int32) := by decide
theorem bp_38 : (Int8.ofInt (38)).toInt32 = (38 : Int32) := by decide
theorem bp_39 : (Int8.ofInt (39)).toInt32 = (39 : Int32) := by decide
theorem bp_104 : (Int8.ofInt (104)).toInt32 = (104 : Int32) := by decide
theorem bp_44 : (Int8.ofInt (44)).toInt32 = (44 : Int32) := by decide
theorem bp_46 : (Int8.ofInt (46)).toInt32 = (46 : Int32) := by decide
theorem bp_49 : (Int8.ofInt (49)).toInt32 = (49 : Int32) := by decide
theorem bp_51 : (Int8.ofInt (51)).toInt32 = (51 : Int32) := by decide
theorem bp_52 : (Int8.ofInt (52)).toInt32 = (52 : Int32) := by decide
theorem bp_53 : (Int8.ofInt (53)).toInt32 = (53 : Int32) := by decide
theorem bp_54 : (Int8.ofInt (54)).toInt32 = (54 : Int32) := by decide
theorem bp_55 : (Int8.ofInt (55)).toInt32 = (55 : Int32) := by decide
theorem bp_56 : (Int8.ofInt (56)).toInt32 = (56 : Int32) := by decide
theorem bp_58 : (Int8.ofInt (58)).toInt32 = (58 : Int32) := by decide
theorem bp_119 : (Int8.ofInt (119)).toInt32 = (119 : Int32) := by decide
theorem bp_63 : (Int8.ofInt (63)).toInt32 = (63 : Int32) := by decide
theorem bp_109 : (Int8.ofInt (109)).toInt32 = (109 : Int32) := by decide
theorem bp_65 : (Int8.ofInt (65)).toInt32 = (65 : Int32) := by decide
theorem bp_66 : (Int8.ofInt (66)).toInt32 = (66 : Int32) := by decide
theorem bp_67 : (Int8.ofInt (67)).toInt32 = (67 : Int32) := by decide
theorem bp_68 : (Int8.ofInt (68)).toInt32 = (68 : Int32) := by decide
theorem bp_69 : (Int8.ofInt (69)).toInt32 = (69 : Int32) := by decide
theorem bp_70 : (Int8.ofInt (70)).toInt32 = (70 : Int32) := by decide
theorem bp_117 : (Int8.ofInt (117)).toInt32 = (117 : Int32) := by decide
theorem bp_71 : (Int8.ofInt (71)).toInt32 = (71 : Int32) := by decide
theorem bp_73 : (Int8.ofInt (73)).toInt32 = (73 : Int32) := by decide
theorem bp_74 : (Int8.ofInt (74)).toInt32 = (74 : Int32) := by decide
theorem bp_75 : (Int8.ofInt (75)).toInt32 = (75 : Int32) := by decide
theorem bp_76 : (Int8.ofInt (76)).toInt32 = (76 : Int32) := by decide
theorem bp_77 : (Int8.ofInt (77)).toInt32 = (77 : Int32) := by decide
theorem bp_78 : (Int8.ofInt (78)).toInt32 = (78 : Int32) := by decide
theorem bp_79 : (Int8.ofInt (79)).toInt32 = (79 : Int32) := by decide
theorem bp_80 : (Int8.ofInt (80)).toInt32 = (80 : Int32) := by decide
theorem bp_81 : (Int8.ofInt (81)).toInt32 = (81 : Int32) := by decide
theorem bp_82 : (Int8.ofInt (82)).toInt32 = (82 : Int32) := by decide
theorem bp_83 : (Int8.ofInt (83)).toInt32 = (83 : Int32) := by decide
theorem bp_84 : (Int8.ofInt (84)).toInt32 = (84 : Int32) := by decide
theorem bp_85 : (Int8.ofInt (85)).toInt32 = (85 : Int32) := by decide
theorem bp_86 : (Int8.ofInt (86)).toInt32 = (86 : Int32) := by decide
theorem bp_87 : (Int8.ofInt (87)).toInt32 = (87 : Int32) := by decide
theorem bp_88 : (Int8.ofInt (88)).toInt32 = (88 : Int32) := by decide
theorem bp_89 : (Int8.ofInt (89)).toInt32 = (89 : Int32) := by decide
theorem bp_90 : (Int8.ofInt (90)).toInt32 = (90 : Int32) := by decide
theorem bp_92 : (Int8.ofInt (92)).toInt32 = (92 : Int32) := by decide
theorem bp_94 : (Int8.ofInt (94)).toInt32 = (94 : Int32) := by decide
theorem bp_95 : (Int8.ofInt (95)).toInt32 = (95 : Int32) := by decide
theorem bp_96 : (Int8.ofInt (96)).toInt32 = (96 : Int32) := by decide
theorem bp_98 : (Int8.ofInt (98)).toInt32 = (98 : Int32) := by decide
theorem bp_103 : (Int8.ofInt (103)).toInt32 = (103 : Int32) := by decide
theorem bp_106 : (Int8.ofInt (106)).toInt32 = (106 : Int32) := by decide
theorem bp_113 : (Int8.ofInt (113)).toInt32 = (113 : Int32) := by decide
theorem bp_120 : (Int8.ofInt (120)).toInt32 = (120 : Int32) := by decide
theorem bp_121 : (Int8.ofInt (121)).toInt32 = (121 : Int32) := by decide
theorem bp_123 : (Int8.ofInt (123)).toInt32 = (123 : Int32) := by decide
theorem bp_124 : (Int8.ofInt (124)).toInt32 = (124 : Int32) := by decide
theorem bp_125 : (Int8.ofInt (125)).toInt32 = (125 : Int32) := by decide
theorem bp_126 : (Int8.ofInt (126)).toInt32 = (126 : Int32) := by decide
theorem bp_127 : (Int8.ofInt (127)).toInt32 = (127 : Int32) := by decide
theorem sp_128 : (Int16.ofInt (128)).toInt32 = (128 : Int32) := by decide
theorem sp_129 : (Int16.ofInt (129)).toInt32 = (129 : Int32) := by decide
theorem sp_130 : (Int16.ofInt (130)).toInt32 = (130 : Int32) := by decide
theorem sp_131 : (Int16.ofInt (131)).toInt32 = (131 : Int32) := by decide
theorem sp_132 : (Int16.ofInt (132)).toInt32 = (132 : Int32) := by decide
theorem sp_133 : (Int16.ofInt (133)).toInt32 = (133 : Int32) := by decide
theorem sp_134 : (Int16.ofInt (134)).toInt32 = (134 : Int32) := by decide
theorem sp_135 : (Int16.ofInt (135)).toInt32 = (135 : Int32) := by decide
theorem sp_136 : (Int16.ofInt (136)).toInt32 = (136 : Int32) := by decide
theorem sp_137 : (Int16.ofInt (137)).toInt32 = (137 : Int32) := by decide
theorem sp_138 : (Int16.ofInt (138)).toInt32 = (138 : Int32) := by decide
theorem sp_139 : (Int16.ofInt (139)).toInt32 = (139 : Int32) := by decide
theorem sp_140 : (Int16.ofInt (140)).toInt32 = (140 : Int32) := by decide
theorem sp_141 : (Int16.ofInt (141)).toInt32 = (141 : Int32) := by decide
theorem sp_142 : (Int16.ofInt (142)).toInt32 = (142 : Int32) := by decide
theorem sp_143 : (Int16.ofInt (143)).toInt32 = (143 : Int32) := by decide
theorem sp_4320 : (Int16.ofInt (4320)).toInt32 = (4320 : Int32) := by decide
theorem sp_2862 : (Int16.ofInt (2862)).toInt32 = (2862 : Int32) := by decide
theorem sp_2400 : (Int16.ofInt (2400)).toInt32 = (2400 : Int32) := by decide
theorem dat {b : ByteArray} {L : List (Nat × Instr × Nat)} (H : ∀ q ∈ L, decode b q.1 = .ok q.2) (i : Nat) {pc len : Nat} {ins : Instr} (h : L[i]? = some (pc, ins, len)) : decode b pc = .ok (ins, len) := H (pc, ins, len) (List.mem_of_getElem? h)
