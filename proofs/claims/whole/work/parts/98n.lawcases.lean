/-! the law: its calls, one by one -/
theorem lw_in {L i j : Nat} {k : Int32} (hL : L ≤ 3072) (hi : i + 6 ≤ L) (hj : j < 6) (ek : k = nI j) : inB (nI i + k) L = true := by
  rw [ek, nI_add]
  exact inB_nI (by omega) (by omega)
def sl_0 : List Rw := [(184, 185, .aload_n 1, 0, .null), (185, 186, .aload_n 0, 0, .null), (186, 187, .iload_n 3, 0, .null), (187, 188, .iconst 1, 0, .int 1), (188, 189, .iadd, 0, .null), (189, 190, .iaload, 0, .null), (190, 191, .aload_n 0, 0, .null), (191, 192, .iload_n 3, 0, .null), (192, 193, .iconst 2, 0, .int 2), (193, 194, .iadd, 0, .null), (194, 195, .iaload, 0, .null), (195, 196, .aload_n 0, 0, .null), (196, 197, .iload_n 3, 0, .null), (197, 198, .iconst 3, 0, .int 3), (198, 199, .iadd, 0, .null), (199, 200, .iaload, 0, .null), (200, 201, .aload_n 0, 0, .null), (201, 202, .iload_n 3, 0, .null), (202, 203, .iconst 4, 0, .int 4), (203, 204, .iadd, 0, .null), (204, 205, .iaload, 0, .null), (205, 208, .invokevirtual 13, 0, .null), (208, 209, .aload_n 2, 0, .null), (209, 210, .aload_n 0, 0, .null), (210, 211, .iload_n 3, 0, .null), (211, 212, .iconst 1, 0, .int 1), (212, 213, .iadd, 0, .null), (213, 214, .iaload, 0, .null), (214, 215, .aload_n 0, 0, .null), (215, 216, .iload_n 3, 0, .null), (216, 217, .iconst 2, 0, .int 2), (217, 218, .iadd, 0, .null), (218, 219, .iaload, 0, .null), (219, 220, .aload_n 0, 0, .null), (220, 221, .iload_n 3, 0, .null), (221, 222, .iconst 3, 0, .int 3), (222, 223, .iadd, 0, .null), (223, 224, .iaload, 0, .null), (224, 225, .aload_n 0, 0, .null), (225, 226, .iload_n 3, 0, .null), (226, 227, .iconst 4, 0, .int 4), (227, 228, .iadd, 0, .null), (228, 229, .iaload, 0, .null), (229, 232, .invokevirtual 17, 0, .null), (232, 235, .if_icmp .eq 1250, 1482, .null), (235, 236, .iconst 0, 0, .int 0), (236, 237, .ireturn, 0, .null)]
theorem sl_0_ok : ∀ row ∈ sl_0, cAt ct221 row.1 = some row := by decide +kernel
theorem ls_0 {L i : Nat} {xs : Nat → Int32} {h : Hp} (hL : L ≤ 3072) (hi : i + 6 ≤ L) (I : Inv h) : ∃ h2, Inv h2 ∧ ∀ (rr : Option Value) (h' : Hp), Rn (L, xs) lawM 1482 [some (.retAddr 5), some (.ref 1), some (.ref 39), some (.int (nI i))] [] h2 rr h' → Rn (L, xs) lawM 184 [some (.retAddr 5), some (.ref 1), some (.ref 39), some (.int (nI i))] [] h rr h' := by
  have b1 : inB (nI i + 1) L = true := lw_in hL hi (j := 1) (by decide) rfl
  have b2 : inB (nI i + 2) L = true := lw_in hL hi (j := 2) (by decide) rfl
  have b3 : inB (nI i + 3) L = true := lw_in hL hi (j := 3) (by decide) rfl
  have b4 : inB (nI i + 4) L = true := lw_in hL hi (j := 4) (by decide) rfl
  obtain ⟨v, h1, h2, X, M, k1, k2, I2⟩ := ((op_camp (sc := (L, xs)) I.1 (xs (nI i + 1).toNatClampNeg) (xs (nI i + 2).toNatClampNeg) (xs (nI i + 3).toNatClampNeg) (xs (nI i + 4).toNatClampNeg)).v I).int rfl rfl I.1
  refine ⟨h2, I2, fun rr h' K => ?_⟩
  refine law_sub sl_0_ok [1482] 90 ?_
  refine And.intro b1 ?_
  refine And.intro b2 ?_
  refine And.intro b3 ?_
  refine And.intro b4 ?_
  refine And.intro ⟨rfl, k1⟩ (And.intro rfl (Exists.intro _ (Exists.intro _ (And.intro (X) ?_))))
  refine And.intro b1 ?_
  refine And.intro b2 ?_
  refine And.intro b3 ?_
  refine And.intro b4 ?_
  refine And.intro ⟨rfl, k2⟩ (And.intro rfl (Exists.intro _ (Exists.intro _ (And.intro (M) ?_))))
  refine br_t rfl ?_
  exact K
def sl_1 : List Rw := [(237, 238, .aload_n 1, 0, .null), (238, 239, .aload_n 0, 0, .null), (239, 240, .iload_n 3, 0, .null), (240, 241, .iconst 1, 0, .int 1), (241, 242, .iadd, 0, .null), (242, 243, .iaload, 0, .null), (243, 244, .aload_n 0, 0, .null), (244, 245, .iload_n 3, 0, .null), (245, 246, .iconst 2, 0, .int 2), (246, 247, .iadd, 0, .null), (247, 248, .iaload, 0, .null), (248, 251, .invokevirtual 18, 0, .null), (251, 252, .aload_n 2, 0, .null), (252, 253, .aload_n 0, 0, .null), (253, 254, .iload_n 3, 0, .null), (254, 255, .iconst 1, 0, .int 1), (255, 256, .iadd, 0, .null), (256, 257, .iaload, 0, .null), (257, 258, .aload_n 0, 0, .null), (258, 259, .iload_n 3, 0, .null), (259, 260, .iconst 2, 0, .int 2), (260, 261, .iadd, 0, .null), (261, 262, .iaload, 0, .null), (262, 265, .invokevirtual 22, 0, .null), (265, 268, .if_icmp .eq 1217, 1482, .null), (268, 269, .iconst 0, 0, .int 0), (269, 270, .ireturn, 0, .null)]
theorem sl_1_ok : ∀ row ∈ sl_1, cAt ct221 row.1 = some row := by decide +kernel
theorem ls_1 {L i : Nat} {xs : Nat → Int32} {h : Hp} (hL : L ≤ 3072) (hi : i + 6 ≤ L) (I : Inv h) : ∃ h2, Inv h2 ∧ ∀ (rr : Option Value) (h' : Hp), Rn (L, xs) lawM 1482 [some (.retAddr 5), some (.ref 1), some (.ref 39), some (.int (nI i))] [] h2 rr h' → Rn (L, xs) lawM 237 [some (.retAddr 5), some (.ref 1), some (.ref 39), some (.int (nI i))] [] h rr h' := by
  have b1 : inB (nI i + 1) L = true := lw_in hL hi (j := 1) (by decide) rfl
  have b2 : inB (nI i + 2) L = true := lw_in hL hi (j := 2) (by decide) rfl
  obtain ⟨v, h1, h2, X, M, k1, k2, I2⟩ := ((op_ofCamp (sc := (L, xs)) I.1 (xs (nI i + 1).toNatClampNeg) (xs (nI i + 2).toNatClampNeg)).v I).int rfl rfl I.1
  refine ⟨h2, I2, fun rr h' K => ?_⟩
  refine law_sub sl_1_ok [1482] 90 ?_
  refine And.intro b1 ?_
  refine And.intro b2 ?_
  refine And.intro ⟨rfl, k1⟩ (And.intro rfl (Exists.intro _ (Exists.intro _ (And.intro (X) ?_))))
  refine And.intro b1 ?_
  refine And.intro b2 ?_
  refine And.intro ⟨rfl, k2⟩ (And.intro rfl (Exists.intro _ (Exists.intro _ (And.intro (M) ?_))))
  refine br_t rfl ?_
  exact K
def sl_2 : List Rw := [(270, 271, .aload_n 1, 0, .null), (271, 272, .aload_n 0, 0, .null), (272, 273, .iload_n 3, 0, .null), (273, 274, .iconst 1, 0, .int 1), (274, 275, .iadd, 0, .null), (275, 276, .iaload, 0, .null), (276, 277, .aload_n 0, 0, .null), (277, 278, .iload_n 3, 0, .null), (278, 279, .iconst 2, 0, .int 2), (279, 280, .iadd, 0, .null), (280, 281, .iaload, 0, .null), (281, 282, .aload_n 0, 0, .null), (282, 283, .iload_n 3, 0, .null), (283, 284, .iconst 3, 0, .int 3), (284, 285, .iadd, 0, .null), (285, 286, .iaload, 0, .null), (286, 289, .invokevirtual 23, 0, .null), (289, 290, .aload_n 2, 0, .null), (290, 291, .aload_n 0, 0, .null), (291, 292, .iload_n 3, 0, .null), (292, 293, .iconst 1, 0, .int 1), (293, 294, .iadd, 0, .null), (294, 295, .iaload, 0, .null), (295, 296, .aload_n 0, 0, .null), (296, 297, .iload_n 3, 0, .null), (297, 298, .iconst 2, 0, .int 2), (298, 299, .iadd, 0, .null), (299, 300, .iaload, 0, .null), (300, 301, .aload_n 0, 0, .null), (301, 302, .iload_n 3, 0, .null), (302, 303, .iconst 3, 0, .int 3), (303, 304, .iadd, 0, .null), (304, 305, .iaload, 0, .null), (305, 308, .invokevirtual 27, 0, .null), (308, 311, .if_icmp .eq 1174, 1482, .null), (311, 312, .iconst 0, 0, .int 0), (312, 313, .ireturn, 0, .null)]
theorem sl_2_ok : ∀ row ∈ sl_2, cAt ct221 row.1 = some row := by decide +kernel
theorem ls_2 {L i : Nat} {xs : Nat → Int32} {h : Hp} (hL : L ≤ 3072) (hi : i + 6 ≤ L) (I : Inv h) : ∃ h2, Inv h2 ∧ ∀ (rr : Option Value) (h' : Hp), Rn (L, xs) lawM 1482 [some (.retAddr 5), some (.ref 1), some (.ref 39), some (.int (nI i))] [] h2 rr h' → Rn (L, xs) lawM 270 [some (.retAddr 5), some (.ref 1), some (.ref 39), some (.int (nI i))] [] h rr h' := by
  have b1 : inB (nI i + 1) L = true := lw_in hL hi (j := 1) (by decide) rfl
  have b2 : inB (nI i + 2) L = true := lw_in hL hi (j := 2) (by decide) rfl
  have b3 : inB (nI i + 3) L = true := lw_in hL hi (j := 3) (by decide) rfl
  obtain ⟨v, h1, h2, X, M, k1, k2, I2⟩ := ((op_ofSort (sc := (L, xs)) I.1 (xs (nI i + 1).toNatClampNeg) (xs (nI i + 2).toNatClampNeg) (xs (nI i + 3).toNatClampNeg)).v I).int rfl rfl I.1
  refine ⟨h2, I2, fun rr h' K => ?_⟩
  refine law_sub sl_2_ok [1482] 90 ?_
  refine And.intro b1 ?_
  refine And.intro b2 ?_
  refine And.intro b3 ?_
  refine And.intro ⟨rfl, k1⟩ (And.intro rfl (Exists.intro _ (Exists.intro _ (And.intro (X) ?_))))
  refine And.intro b1 ?_
  refine And.intro b2 ?_
  refine And.intro b3 ?_
  refine And.intro ⟨rfl, k2⟩ (And.intro rfl (Exists.intro _ (Exists.intro _ (And.intro (M) ?_))))
  refine br_t rfl ?_
  exact K
def sl_3 : List Rw := [(313, 314, .aload_n 1, 0, .null), (314, 315, .aload_n 0, 0, .null), (315, 316, .iload_n 3, 0, .null), (316, 317, .iconst 1, 0, .int 1), (317, 318, .iadd, 0, .null), (318, 319, .iaload, 0, .null), (319, 320, .aload_n 0, 0, .null), (320, 321, .iload_n 3, 0, .null), (321, 322, .iconst 2, 0, .int 2), (322, 323, .iadd, 0, .null), (323, 324, .iaload, 0, .null), (324, 325, .aload_n 0, 0, .null), (325, 326, .iload_n 3, 0, .null), (326, 327, .iconst 3, 0, .int 3), (327, 328, .iadd, 0, .null), (328, 329, .iaload, 0, .null), (329, 330, .aload_n 0, 0, .null), (330, 331, .iload_n 3, 0, .null), (331, 332, .iconst 4, 0, .int 4), (332, 333, .iadd, 0, .null), (333, 334, .iaload, 0, .null), (334, 337, .invokevirtual 28, 0, .null), (337, 338, .aload_n 2, 0, .null), (338, 339, .aload_n 0, 0, .null), (339, 340, .iload_n 3, 0, .null), (340, 341, .iconst 1, 0, .int 1), (341, 342, .iadd, 0, .null), (342, 343, .iaload, 0, .null), (343, 344, .aload_n 0, 0, .null), (344, 345, .iload_n 3, 0, .null), (345, 346, .iconst 2, 0, .int 2), (346, 347, .iadd, 0, .null), (347, 348, .iaload, 0, .null), (348, 349, .aload_n 0, 0, .null), (349, 350, .iload_n 3, 0, .null), (350, 351, .iconst 3, 0, .int 3), (351, 352, .iadd, 0, .null), (352, 353, .iaload, 0, .null), (353, 354, .aload_n 0, 0, .null), (354, 355, .iload_n 3, 0, .null), (355, 356, .iconst 4, 0, .int 4), (356, 357, .iadd, 0, .null), (357, 358, .iaload, 0, .null), (358, 361, .invokevirtual 31, 0, .null), (361, 364, .if_icmp .eq 1121, 1482, .null), (364, 365, .iconst 0, 0, .int 0), (365, 366, .ireturn, 0, .null)]
theorem sl_3_ok : ∀ row ∈ sl_3, cAt ct221 row.1 = some row := by decide +kernel
theorem ls_3 {L i : Nat} {xs : Nat → Int32} {h : Hp} (hL : L ≤ 3072) (hi : i + 6 ≤ L) (I : Inv h) : ∃ h2, Inv h2 ∧ ∀ (rr : Option Value) (h' : Hp), Rn (L, xs) lawM 1482 [some (.retAddr 5), some (.ref 1), some (.ref 39), some (.int (nI i))] [] h2 rr h' → Rn (L, xs) lawM 313 [some (.retAddr 5), some (.ref 1), some (.ref 39), some (.int (nI i))] [] h rr h' := by
  have b1 : inB (nI i + 1) L = true := lw_in hL hi (j := 1) (by decide) rfl
  have b2 : inB (nI i + 2) L = true := lw_in hL hi (j := 2) (by decide) rfl
  have b3 : inB (nI i + 3) L = true := lw_in hL hi (j := 3) (by decide) rfl
  have b4 : inB (nI i + 4) L = true := lw_in hL hi (j := 4) (by decide) rfl
  obtain ⟨v, h1, h2, X, M, k1, k2, I2⟩ := ((op_turn (sc := (L, xs)) I.1 (xs (nI i + 1).toNatClampNeg) (xs (nI i + 2).toNatClampNeg) (xs (nI i + 3).toNatClampNeg) (xs (nI i + 4).toNatClampNeg)).v I).int rfl rfl I.1
  refine ⟨h2, I2, fun rr h' K => ?_⟩
  refine law_sub sl_3_ok [1482] 90 ?_
  refine And.intro b1 ?_
  refine And.intro b2 ?_
  refine And.intro b3 ?_
  refine And.intro b4 ?_
  refine And.intro ⟨rfl, k1⟩ (And.intro rfl (Exists.intro _ (Exists.intro _ (And.intro (X) ?_))))
  refine And.intro b1 ?_
  refine And.intro b2 ?_
  refine And.intro b3 ?_
  refine And.intro b4 ?_
  refine And.intro ⟨rfl, k2⟩ (And.intro rfl (Exists.intro _ (Exists.intro _ (And.intro (M) ?_))))
  refine br_t rfl ?_
  exact K
def sl_4 : List Rw := [(366, 367, .aload_n 1, 0, .null), (367, 368, .aload_n 0, 0, .null), (368, 369, .iload_n 3, 0, .null), (369, 370, .iconst 1, 0, .int 1), (370, 371, .iadd, 0, .null), (371, 372, .iaload, 0, .null), (372, 373, .aload_n 0, 0, .null), (373, 374, .iload_n 3, 0, .null), (374, 375, .iconst 2, 0, .int 2), (375, 376, .iadd, 0, .null), (376, 377, .iaload, 0, .null), (377, 378, .aload_n 0, 0, .null), (378, 379, .iload_n 3, 0, .null), (379, 380, .iconst 3, 0, .int 3), (380, 381, .iadd, 0, .null), (381, 382, .iaload, 0, .null), (382, 383, .aload_n 0, 0, .null), (383, 384, .iload_n 3, 0, .null), (384, 385, .iconst 4, 0, .int 4), (385, 386, .iadd, 0, .null), (386, 387, .iaload, 0, .null), (387, 390, .invokevirtual 32, 0, .null), (390, 391, .aload_n 2, 0, .null), (391, 392, .aload_n 0, 0, .null), (392, 393, .iload_n 3, 0, .null), (393, 394, .iconst 1, 0, .int 1), (394, 395, .iadd, 0, .null), (395, 396, .iaload, 0, .null), (396, 397, .aload_n 0, 0, .null), (397, 398, .iload_n 3, 0, .null), (398, 399, .iconst 2, 0, .int 2), (399, 400, .iadd, 0, .null), (400, 401, .iaload, 0, .null), (401, 402, .aload_n 0, 0, .null), (402, 403, .iload_n 3, 0, .null), (403, 404, .iconst 3, 0, .int 3), (404, 405, .iadd, 0, .null), (405, 406, .iaload, 0, .null), (406, 407, .aload_n 0, 0, .null), (407, 408, .iload_n 3, 0, .null), (408, 409, .iconst 4, 0, .int 4), (409, 410, .iadd, 0, .null), (410, 411, .iaload, 0, .null), (411, 414, .invokevirtual 36, 0, .null), (414, 415, .lcmp, 0, .null), (415, 418, .ifCond .eq 1067, 1482, .null), (418, 419, .iconst 0, 0, .int 0), (419, 420, .ireturn, 0, .null)]
theorem sl_4_ok : ∀ row ∈ sl_4, cAt ct221 row.1 = some row := by decide +kernel
theorem ls_4 {L i : Nat} {xs : Nat → Int32} {h : Hp} (hL : L ≤ 3072) (hi : i + 6 ≤ L) (I : Inv h) : ∃ h2, Inv h2 ∧ ∀ (rr : Option Value) (h' : Hp), Rn (L, xs) lawM 1482 [some (.retAddr 5), some (.ref 1), some (.ref 39), some (.int (nI i))] [] h2 rr h' → Rn (L, xs) lawM 366 [some (.retAddr 5), some (.ref 1), some (.ref 39), some (.int (nI i))] [] h rr h' := by
  have b1 : inB (nI i + 1) L = true := lw_in hL hi (j := 1) (by decide) rfl
  have b2 : inB (nI i + 2) L = true := lw_in hL hi (j := 2) (by decide) rfl
  have b3 : inB (nI i + 3) L = true := lw_in hL hi (j := 3) (by decide) rfl
  have b4 : inB (nI i + 4) L = true := lw_in hL hi (j := 4) (by decide) rfl
  obtain ⟨v, h1, h2, X, M, k1, k2, I2⟩ := ((op_value (sc := (L, xs)) I.1 I.2.1 (xs (nI i + 1).toNatClampNeg) (xs (nI i + 2).toNatClampNeg) (xs (nI i + 3).toNatClampNeg) (xs (nI i + 4).toNatClampNeg)).v I).long rfl rfl I.1
  refine ⟨h2, I2, fun rr h' K => ?_⟩
  refine law_sub sl_4_ok [1482] 90 ?_
  refine And.intro b1 ?_
  refine And.intro b2 ?_
  refine And.intro b3 ?_
  refine And.intro b4 ?_
  refine And.intro ⟨rfl, k1⟩ (And.intro rfl (Exists.intro _ (Exists.intro _ (And.intro (X) ?_))))
  refine And.intro b1 ?_
  refine And.intro b2 ?_
  refine And.intro b3 ?_
  refine And.intro b4 ?_
  refine And.intro ⟨rfl, k2⟩ (And.intro rfl (Exists.intro _ (Exists.intro _ (And.intro (M) ?_))))
  refine br_t ((cmp_eq0 v v).mpr rfl) ?_
  exact K
def sl_5 : List Rw := [(420, 421, .aload_n 1, 0, .null), (421, 422, .aload_n 0, 0, .null), (422, 423, .iload_n 3, 0, .null), (423, 424, .iconst 1, 0, .int 1), (424, 425, .iadd, 0, .null), (425, 426, .iaload, 0, .null), (426, 427, .aload_n 0, 0, .null), (427, 428, .iload_n 3, 0, .null), (428, 429, .iconst 2, 0, .int 2), (429, 430, .iadd, 0, .null), (430, 431, .iaload, 0, .null), (431, 432, .aload_n 0, 0, .null), (432, 433, .iload_n 3, 0, .null), (433, 434, .iconst 3, 0, .int 3), (434, 435, .iadd, 0, .null), (435, 436, .iaload, 0, .null), (436, 439, .invokevirtual 37, 0, .null), (439, 440, .aload_n 2, 0, .null), (440, 441, .aload_n 0, 0, .null), (441, 442, .iload_n 3, 0, .null), (442, 443, .iconst 1, 0, .int 1), (443, 444, .iadd, 0, .null), (444, 445, .iaload, 0, .null), (445, 446, .aload_n 0, 0, .null), (446, 447, .iload_n 3, 0, .null), (447, 448, .iconst 2, 0, .int 2), (448, 449, .iadd, 0, .null), (449, 450, .iaload, 0, .null), (450, 451, .aload_n 0, 0, .null), (451, 452, .iload_n 3, 0, .null), (452, 453, .iconst 3, 0, .int 3), (453, 454, .iadd, 0, .null), (454, 455, .iaload, 0, .null), (455, 458, .invokevirtual 40, 0, .null), (458, 461, .if_icmp .eq 1024, 1482, .null), (461, 462, .iconst 0, 0, .int 0), (462, 463, .ireturn, 0, .null)]
theorem sl_5_ok : ∀ row ∈ sl_5, cAt ct221 row.1 = some row := by decide +kernel
theorem ls_5 {L i : Nat} {xs : Nat → Int32} {h : Hp} (hL : L ≤ 3072) (hi : i + 6 ≤ L) (I : Inv h) : ∃ h2, Inv h2 ∧ ∀ (rr : Option Value) (h' : Hp), Rn (L, xs) lawM 1482 [some (.retAddr 5), some (.ref 1), some (.ref 39), some (.int (nI i))] [] h2 rr h' → Rn (L, xs) lawM 420 [some (.retAddr 5), some (.ref 1), some (.ref 39), some (.int (nI i))] [] h rr h' := by
  have b1 : inB (nI i + 1) L = true := lw_in hL hi (j := 1) (by decide) rfl
  have b2 : inB (nI i + 2) L = true := lw_in hL hi (j := 2) (by decide) rfl
  have b3 : inB (nI i + 3) L = true := lw_in hL hi (j := 3) (by decide) rfl
  obtain ⟨v, h1, h2, X, M, k1, k2, I2⟩ := ((op_today (sc := (L, xs)) I.1 I.2.1 (xs (nI i + 1).toNatClampNeg) (xs (nI i + 2).toNatClampNeg) (xs (nI i + 3).toNatClampNeg)).v I).int rfl rfl I.1
  refine ⟨h2, I2, fun rr h' K => ?_⟩
  refine law_sub sl_5_ok [1482] 90 ?_
  refine And.intro b1 ?_
  refine And.intro b2 ?_
  refine And.intro b3 ?_
  refine And.intro ⟨rfl, k1⟩ (And.intro rfl (Exists.intro _ (Exists.intro _ (And.intro (X) ?_))))
  refine And.intro b1 ?_
  refine And.intro b2 ?_
  refine And.intro b3 ?_
  refine And.intro ⟨rfl, k2⟩ (And.intro rfl (Exists.intro _ (Exists.intro _ (And.intro (M) ?_))))
  refine br_t rfl ?_
  exact K
def sl_6 : List Rw := [(463, 464, .aload_n 1, 0, .null), (464, 465, .aload_n 0, 0, .null), (465, 466, .iload_n 3, 0, .null), (466, 467, .iconst 1, 0, .int 1), (467, 468, .iadd, 0, .null), (468, 469, .iaload, 0, .null), (469, 470, .aload_n 0, 0, .null), (470, 471, .iload_n 3, 0, .null), (471, 472, .iconst 2, 0, .int 2), (472, 473, .iadd, 0, .null), (473, 474, .iaload, 0, .null), (474, 475, .aload_n 0, 0, .null), (475, 476, .iload_n 3, 0, .null), (476, 477, .iconst 3, 0, .int 3), (477, 478, .iadd, 0, .null), (478, 479, .iaload, 0, .null), (479, 482, .invokevirtual 41, 0, .null), (482, 483, .aload_n 2, 0, .null), (483, 484, .aload_n 0, 0, .null), (484, 485, .iload_n 3, 0, .null), (485, 486, .iconst 1, 0, .int 1), (486, 487, .iadd, 0, .null), (487, 488, .iaload, 0, .null), (488, 489, .aload_n 0, 0, .null), (489, 490, .iload_n 3, 0, .null), (490, 491, .iconst 2, 0, .int 2), (491, 492, .iadd, 0, .null), (492, 493, .iaload, 0, .null), (493, 494, .aload_n 0, 0, .null), (494, 495, .iload_n 3, 0, .null), (495, 496, .iconst 3, 0, .int 3), (496, 497, .iadd, 0, .null), (497, 498, .iaload, 0, .null), (498, 501, .invokevirtual 45, 0, .null), (501, 502, .lcmp, 0, .null), (502, 505, .ifCond .eq 980, 1482, .null), (505, 506, .iconst 0, 0, .int 0), (506, 507, .ireturn, 0, .null)]
theorem sl_6_ok : ∀ row ∈ sl_6, cAt ct221 row.1 = some row := by decide +kernel
theorem ls_6 {L i : Nat} {xs : Nat → Int32} {h : Hp} (hL : L ≤ 3072) (hi : i + 6 ≤ L) (I : Inv h) : ∃ h2, Inv h2 ∧ ∀ (rr : Option Value) (h' : Hp), Rn (L, xs) lawM 1482 [some (.retAddr 5), some (.ref 1), some (.ref 39), some (.int (nI i))] [] h2 rr h' → Rn (L, xs) lawM 463 [some (.retAddr 5), some (.ref 1), some (.ref 39), some (.int (nI i))] [] h rr h' := by
  have b1 : inB (nI i + 1) L = true := lw_in hL hi (j := 1) (by decide) rfl
  have b2 : inB (nI i + 2) L = true := lw_in hL hi (j := 2) (by decide) rfl
  have b3 : inB (nI i + 3) L = true := lw_in hL hi (j := 3) (by decide) rfl
  obtain ⟨v, h1, h2, X, M, k1, k2, I2⟩ := ((op_worth (sc := (L, xs)) I.1 I.2.1 (xs (nI i + 1).toNatClampNeg) (xs (nI i + 2).toNatClampNeg) (xs (nI i + 3).toNatClampNeg)).v I).long rfl rfl I.1
  refine ⟨h2, I2, fun rr h' K => ?_⟩
  refine law_sub sl_6_ok [1482] 90 ?_
  refine And.intro b1 ?_
  refine And.intro b2 ?_
  refine And.intro b3 ?_
  refine And.intro ⟨rfl, k1⟩ (And.intro rfl (Exists.intro _ (Exists.intro _ (And.intro (X) ?_))))
  refine And.intro b1 ?_
  refine And.intro b2 ?_
  refine And.intro b3 ?_
  refine And.intro ⟨rfl, k2⟩ (And.intro rfl (Exists.intro _ (Exists.intro _ (And.intro (M) ?_))))
  refine br_t ((cmp_eq0 v v).mpr rfl) ?_
  exact K
def sl_7 : List Rw := [(507, 508, .aload_n 1, 0, .null), (508, 509, .aload_n 0, 0, .null), (509, 510, .iload_n 3, 0, .null), (510, 511, .iconst 1, 0, .int 1), (511, 512, .iadd, 0, .null), (512, 513, .iaload, 0, .null), (513, 514, .aload_n 0, 0, .null), (514, 515, .iload_n 3, 0, .null), (515, 516, .iconst 2, 0, .int 2), (516, 517, .iadd, 0, .null), (517, 518, .iaload, 0, .null), (518, 519, .aload_n 0, 0, .null), (519, 520, .iload_n 3, 0, .null), (520, 521, .iconst 3, 0, .int 3), (521, 522, .iadd, 0, .null), (522, 523, .iaload, 0, .null), (523, 524, .aload_n 0, 0, .null), (524, 525, .iload_n 3, 0, .null), (525, 526, .iconst 4, 0, .int 4), (526, 527, .iadd, 0, .null), (527, 528, .iaload, 0, .null), (528, 531, .invokevirtual 46, 0, .null), (531, 532, .aload_n 2, 0, .null), (532, 533, .aload_n 0, 0, .null), (533, 534, .iload_n 3, 0, .null), (534, 535, .iconst 1, 0, .int 1), (535, 536, .iadd, 0, .null), (536, 537, .iaload, 0, .null), (537, 538, .aload_n 0, 0, .null), (538, 539, .iload_n 3, 0, .null), (539, 540, .iconst 2, 0, .int 2), (540, 541, .iadd, 0, .null), (541, 542, .iaload, 0, .null), (542, 543, .aload_n 0, 0, .null), (543, 544, .iload_n 3, 0, .null), (544, 545, .iconst 3, 0, .int 3), (545, 546, .iadd, 0, .null), (546, 547, .iaload, 0, .null), (547, 548, .aload_n 0, 0, .null), (548, 549, .iload_n 3, 0, .null), (549, 550, .iconst 4, 0, .int 4), (550, 551, .iadd, 0, .null), (551, 552, .iaload, 0, .null), (552, 555, .invokevirtual 49, 0, .null), (555, 558, .if_icmp .eq 927, 1482, .null), (558, 559, .iconst 0, 0, .int 0), (559, 560, .ireturn, 0, .null)]
theorem sl_7_ok : ∀ row ∈ sl_7, cAt ct221 row.1 = some row := by decide +kernel
theorem ls_7 {L i : Nat} {xs : Nat → Int32} {h : Hp} (hL : L ≤ 3072) (hi : i + 6 ≤ L) (I : Inv h) : ∃ h2, Inv h2 ∧ ∀ (rr : Option Value) (h' : Hp), Rn (L, xs) lawM 1482 [some (.retAddr 5), some (.ref 1), some (.ref 39), some (.int (nI i))] [] h2 rr h' → Rn (L, xs) lawM 507 [some (.retAddr 5), some (.ref 1), some (.ref 39), some (.int (nI i))] [] h rr h' := by
  have b1 : inB (nI i + 1) L = true := lw_in hL hi (j := 1) (by decide) rfl
  have b2 : inB (nI i + 2) L = true := lw_in hL hi (j := 2) (by decide) rfl
  have b3 : inB (nI i + 3) L = true := lw_in hL hi (j := 3) (by decide) rfl
  have b4 : inB (nI i + 4) L = true := lw_in hL hi (j := 4) (by decide) rfl
  obtain ⟨v, h1, h2, X, M, k1, k2, I2⟩ := ((op_crate (sc := (L, xs)) I.1 I.2.1 (xs (nI i + 1).toNatClampNeg) (xs (nI i + 2).toNatClampNeg) (xs (nI i + 3).toNatClampNeg) (xs (nI i + 4).toNatClampNeg)).v I).int rfl rfl I.1
  refine ⟨h2, I2, fun rr h' K => ?_⟩
  refine law_sub sl_7_ok [1482] 90 ?_
  refine And.intro b1 ?_
  refine And.intro b2 ?_
  refine And.intro b3 ?_
  refine And.intro b4 ?_
  refine And.intro ⟨rfl, k1⟩ (And.intro rfl (Exists.intro _ (Exists.intro _ (And.intro (X) ?_))))
  refine And.intro b1 ?_
  refine And.intro b2 ?_
  refine And.intro b3 ?_
  refine And.intro b4 ?_
  refine And.intro ⟨rfl, k2⟩ (And.intro rfl (Exists.intro _ (Exists.intro _ (And.intro (M) ?_))))
  refine br_t rfl ?_
  exact K
def sl_8 : List Rw := [(560, 561, .aload_n 1, 0, .null), (561, 562, .aload_n 0, 0, .null), (562, 563, .iload_n 3, 0, .null), (563, 564, .iconst 1, 0, .int 1), (564, 565, .iadd, 0, .null), (565, 566, .iaload, 0, .null), (566, 567, .aload_n 0, 0, .null), (567, 568, .iload_n 3, 0, .null), (568, 569, .iconst 2, 0, .int 2), (569, 570, .iadd, 0, .null), (570, 571, .iaload, 0, .null), (571, 572, .aload_n 0, 0, .null), (572, 573, .iload_n 3, 0, .null), (573, 574, .iconst 3, 0, .int 3), (574, 575, .iadd, 0, .null), (575, 576, .iaload, 0, .null), (576, 577, .aload_n 0, 0, .null), (577, 578, .iload_n 3, 0, .null), (578, 579, .iconst 4, 0, .int 4), (579, 580, .iadd, 0, .null), (580, 581, .iaload, 0, .null), (581, 584, .invokevirtual 50, 0, .null), (584, 585, .aload_n 2, 0, .null), (585, 586, .aload_n 0, 0, .null), (586, 587, .iload_n 3, 0, .null), (587, 588, .iconst 1, 0, .int 1), (588, 589, .iadd, 0, .null), (589, 590, .iaload, 0, .null), (590, 591, .aload_n 0, 0, .null), (591, 592, .iload_n 3, 0, .null), (592, 593, .iconst 2, 0, .int 2), (593, 594, .iadd, 0, .null), (594, 595, .iaload, 0, .null), (595, 596, .aload_n 0, 0, .null), (596, 597, .iload_n 3, 0, .null), (597, 598, .iconst 3, 0, .int 3), (598, 599, .iadd, 0, .null), (599, 600, .iaload, 0, .null), (600, 601, .aload_n 0, 0, .null), (601, 602, .iload_n 3, 0, .null), (602, 603, .iconst 4, 0, .int 4), (603, 604, .iadd, 0, .null), (604, 605, .iaload, 0, .null), (605, 608, .invokevirtual 53, 0, .null), (608, 609, .lcmp, 0, .null), (609, 612, .ifCond .eq 873, 1482, .null), (612, 613, .iconst 0, 0, .int 0), (613, 614, .ireturn, 0, .null)]
theorem sl_8_ok : ∀ row ∈ sl_8, cAt ct221 row.1 = some row := by decide +kernel
theorem ls_8 {L i : Nat} {xs : Nat → Int32} {h : Hp} (hL : L ≤ 3072) (hi : i + 6 ≤ L) (I : Inv h) : ∃ h2, Inv h2 ∧ ∀ (rr : Option Value) (h' : Hp), Rn (L, xs) lawM 1482 [some (.retAddr 5), some (.ref 1), some (.ref 39), some (.int (nI i))] [] h2 rr h' → Rn (L, xs) lawM 560 [some (.retAddr 5), some (.ref 1), some (.ref 39), some (.int (nI i))] [] h rr h' := by
  have b1 : inB (nI i + 1) L = true := lw_in hL hi (j := 1) (by decide) rfl
  have b2 : inB (nI i + 2) L = true := lw_in hL hi (j := 2) (by decide) rfl
  have b3 : inB (nI i + 3) L = true := lw_in hL hi (j := 3) (by decide) rfl
  have b4 : inB (nI i + 4) L = true := lw_in hL hi (j := 4) (by decide) rfl
  obtain ⟨v, h1, h2, X, M, k1, k2, I2⟩ := ((op_lent (sc := (L, xs)) I.1 I.2.1 (xs (nI i + 1).toNatClampNeg) (xs (nI i + 2).toNatClampNeg) (xs (nI i + 3).toNatClampNeg) (xs (nI i + 4).toNatClampNeg)).v I).long rfl rfl I.1
  refine ⟨h2, I2, fun rr h' K => ?_⟩
  refine law_sub sl_8_ok [1482] 90 ?_
  refine And.intro b1 ?_
  refine And.intro b2 ?_
  refine And.intro b3 ?_
  refine And.intro b4 ?_
  refine And.intro ⟨rfl, k1⟩ (And.intro rfl (Exists.intro _ (Exists.intro _ (And.intro (X) ?_))))
  refine And.intro b1 ?_
  refine And.intro b2 ?_
  refine And.intro b3 ?_
  refine And.intro b4 ?_
  refine And.intro ⟨rfl, k2⟩ (And.intro rfl (Exists.intro _ (Exists.intro _ (And.intro (M) ?_))))
  refine br_t ((cmp_eq0 v v).mpr rfl) ?_
  exact K
def sl_9 : List Rw := [(614, 615, .aload_n 1, 0, .null), (615, 616, .aload_n 0, 0, .null), (616, 617, .iload_n 3, 0, .null), (617, 618, .iconst 1, 0, .int 1), (618, 619, .iadd, 0, .null), (619, 620, .iaload, 0, .null), (620, 621, .aload_n 0, 0, .null), (621, 622, .iload_n 3, 0, .null), (622, 623, .iconst 2, 0, .int 2), (623, 624, .iadd, 0, .null), (624, 625, .iaload, 0, .null), (625, 626, .aload_n 0, 0, .null), (626, 627, .iload_n 3, 0, .null), (627, 628, .iconst 3, 0, .int 3), (628, 629, .iadd, 0, .null), (629, 630, .iaload, 0, .null), (630, 631, .aload_n 0, 0, .null), (631, 632, .iload_n 3, 0, .null), (632, 633, .iconst 4, 0, .int 4), (633, 634, .iadd, 0, .null), (634, 635, .iaload, 0, .null), (635, 636, .aload_n 0, 0, .null), (636, 637, .iload_n 3, 0, .null), (637, 638, .iconst 5, 0, .int 5), (638, 639, .iadd, 0, .null), (639, 640, .iaload, 0, .null), (640, 643, .invokevirtual 54, 0, .null), (643, 644, .aload_n 2, 0, .null), (644, 645, .aload_n 0, 0, .null), (645, 646, .iload_n 3, 0, .null), (646, 647, .iconst 1, 0, .int 1), (647, 648, .iadd, 0, .null), (648, 649, .iaload, 0, .null), (649, 650, .aload_n 0, 0, .null), (650, 651, .iload_n 3, 0, .null), (651, 652, .iconst 2, 0, .int 2), (652, 653, .iadd, 0, .null), (653, 654, .iaload, 0, .null), (654, 655, .aload_n 0, 0, .null), (655, 656, .iload_n 3, 0, .null), (656, 657, .iconst 3, 0, .int 3), (657, 658, .iadd, 0, .null), (658, 659, .iaload, 0, .null), (659, 660, .aload_n 0, 0, .null), (660, 661, .iload_n 3, 0, .null), (661, 662, .iconst 4, 0, .int 4), (662, 663, .iadd, 0, .null), (663, 664, .iaload, 0, .null), (664, 665, .aload_n 0, 0, .null), (665, 666, .iload_n 3, 0, .null), (666, 667, .iconst 5, 0, .int 5), (667, 668, .iadd, 0, .null), (668, 669, .iaload, 0, .null), (669, 672, .invokevirtual 58, 0, .null), (672, 675, .if_icmp .eq 810, 1482, .null), (675, 676, .iconst 0, 0, .int 0), (676, 677, .ireturn, 0, .null)]
theorem sl_9_ok : ∀ row ∈ sl_9, cAt ct221 row.1 = some row := by decide +kernel
theorem ls_9 {L i : Nat} {xs : Nat → Int32} {h : Hp} (hL : L ≤ 3072) (hi : i + 6 ≤ L) (I : Inv h) : ∃ h2, Inv h2 ∧ ∀ (rr : Option Value) (h' : Hp), Rn (L, xs) lawM 1482 [some (.retAddr 5), some (.ref 1), some (.ref 39), some (.int (nI i))] [] h2 rr h' → Rn (L, xs) lawM 614 [some (.retAddr 5), some (.ref 1), some (.ref 39), some (.int (nI i))] [] h rr h' := by
  have b1 : inB (nI i + 1) L = true := lw_in hL hi (j := 1) (by decide) rfl
  have b2 : inB (nI i + 2) L = true := lw_in hL hi (j := 2) (by decide) rfl
  have b3 : inB (nI i + 3) L = true := lw_in hL hi (j := 3) (by decide) rfl
  have b4 : inB (nI i + 4) L = true := lw_in hL hi (j := 4) (by decide) rfl
  have b5 : inB (nI i + 5) L = true := lw_in hL hi (j := 5) (by decide) rfl
  obtain ⟨v, h1, h2, X, M, k1, k2, I2⟩ := ((op_both (sc := (L, xs)) I.1 I.2.1 (xs (nI i + 1).toNatClampNeg) (xs (nI i + 2).toNatClampNeg) (xs (nI i + 3).toNatClampNeg) (xs (nI i + 4).toNatClampNeg) (xs (nI i + 5).toNatClampNeg)).v I).int rfl rfl I.1
  refine ⟨h2, I2, fun rr h' K => ?_⟩
  refine law_sub sl_9_ok [1482] 90 ?_
  refine And.intro b1 ?_
  refine And.intro b2 ?_
  refine And.intro b3 ?_
  refine And.intro b4 ?_
  refine And.intro b5 ?_
  refine And.intro ⟨rfl, k1⟩ (And.intro rfl (Exists.intro _ (Exists.intro _ (And.intro (X) ?_))))
  refine And.intro b1 ?_
  refine And.intro b2 ?_
  refine And.intro b3 ?_
  refine And.intro b4 ?_
  refine And.intro b5 ?_
  refine And.intro ⟨rfl, k2⟩ (And.intro rfl (Exists.intro _ (Exists.intro _ (And.intro (M) ?_))))
  refine br_t rfl ?_
  exact K
def sl_10 : List Rw := [(677, 678, .aload_n 1, 0, .null), (678, 679, .aload_n 0, 0, .null), (679, 680, .iload_n 3, 0, .null), (680, 681, .iconst 1, 0, .int 1), (681, 682, .iadd, 0, .null), (682, 683, .iaload, 0, .null), (683, 684, .aload_n 0, 0, .null), (684, 685, .iload_n 3, 0, .null), (685, 686, .iconst 2, 0, .int 2), (686, 687, .iadd, 0, .null), (687, 688, .iaload, 0, .null), (688, 689, .aload_n 0, 0, .null), (689, 690, .iload_n 3, 0, .null), (690, 691, .iconst 3, 0, .int 3), (691, 692, .iadd, 0, .null), (692, 693, .iaload, 0, .null), (693, 696, .invokevirtual 59, 0, .null), (696, 697, .aload_n 2, 0, .null), (697, 698, .aload_n 0, 0, .null), (698, 699, .iload_n 3, 0, .null), (699, 700, .iconst 1, 0, .int 1), (700, 701, .iadd, 0, .null), (701, 702, .iaload, 0, .null), (702, 703, .aload_n 0, 0, .null), (703, 704, .iload_n 3, 0, .null), (704, 705, .iconst 2, 0, .int 2), (705, 706, .iadd, 0, .null), (706, 707, .iaload, 0, .null), (707, 708, .aload_n 0, 0, .null), (708, 709, .iload_n 3, 0, .null), (709, 710, .iconst 3, 0, .int 3), (710, 711, .iadd, 0, .null), (711, 712, .iaload, 0, .null), (712, 715, .invokevirtual 62, 0, .null), (715, 718, .if_icmp .eq 767, 1482, .null), (718, 719, .iconst 0, 0, .int 0), (719, 720, .ireturn, 0, .null)]
theorem sl_10_ok : ∀ row ∈ sl_10, cAt ct221 row.1 = some row := by decide +kernel
theorem ls_10 {L i : Nat} {xs : Nat → Int32} {h : Hp} (hL : L ≤ 3072) (hi : i + 6 ≤ L) (I : Inv h) : ∃ h2, Inv h2 ∧ ∀ (rr : Option Value) (h' : Hp), Rn (L, xs) lawM 1482 [some (.retAddr 5), some (.ref 1), some (.ref 39), some (.int (nI i))] [] h2 rr h' → Rn (L, xs) lawM 677 [some (.retAddr 5), some (.ref 1), some (.ref 39), some (.int (nI i))] [] h rr h' := by
  have b1 : inB (nI i + 1) L = true := lw_in hL hi (j := 1) (by decide) rfl
  have b2 : inB (nI i + 2) L = true := lw_in hL hi (j := 2) (by decide) rfl
  have b3 : inB (nI i + 3) L = true := lw_in hL hi (j := 3) (by decide) rfl
  obtain ⟨v, h1, h2, X, M, k1, k2, I2⟩ := ((op_part (sc := (L, xs)) I.1 (xs (nI i + 1).toNatClampNeg) (xs (nI i + 2).toNatClampNeg) (xs (nI i + 3).toNatClampNeg)).v I).int rfl rfl I.1
  refine ⟨h2, I2, fun rr h' K => ?_⟩
  refine law_sub sl_10_ok [1482] 90 ?_
  refine And.intro b1 ?_
  refine And.intro b2 ?_
  refine And.intro b3 ?_
  refine And.intro ⟨rfl, k1⟩ (And.intro rfl (Exists.intro _ (Exists.intro _ (And.intro (X) ?_))))
  refine And.intro b1 ?_
  refine And.intro b2 ?_
  refine And.intro b3 ?_
  refine And.intro ⟨rfl, k2⟩ (And.intro rfl (Exists.intro _ (Exists.intro _ (And.intro (M) ?_))))
  refine br_t rfl ?_
  exact K
def sl_11 : List Rw := [(720, 721, .aload_n 1, 0, .null), (721, 722, .aload_n 0, 0, .null), (722, 723, .iload_n 3, 0, .null), (723, 724, .iconst 1, 0, .int 1), (724, 725, .iadd, 0, .null), (725, 726, .iaload, 0, .null), (726, 727, .aload_n 0, 0, .null), (727, 728, .iload_n 3, 0, .null), (728, 729, .iconst 2, 0, .int 2), (729, 730, .iadd, 0, .null), (730, 731, .iaload, 0, .null), (731, 734, .invokevirtual 63, 0, .null), (734, 735, .aload_n 2, 0, .null), (735, 736, .aload_n 0, 0, .null), (736, 737, .iload_n 3, 0, .null), (737, 738, .iconst 1, 0, .int 1), (738, 739, .iadd, 0, .null), (739, 740, .iaload, 0, .null), (740, 741, .aload_n 0, 0, .null), (741, 742, .iload_n 3, 0, .null), (742, 743, .iconst 2, 0, .int 2), (743, 744, .iadd, 0, .null), (744, 745, .iaload, 0, .null), (745, 748, .invokevirtual 66, 0, .null), (748, 751, .if_icmp .eq 734, 1482, .null), (751, 752, .iconst 0, 0, .int 0), (752, 753, .ireturn, 0, .null)]
theorem sl_11_ok : ∀ row ∈ sl_11, cAt ct221 row.1 = some row := by decide +kernel
theorem ls_11 {L i : Nat} {xs : Nat → Int32} {h : Hp} (hL : L ≤ 3072) (hi : i + 6 ≤ L) (I : Inv h) : ∃ h2, Inv h2 ∧ ∀ (rr : Option Value) (h' : Hp), Rn (L, xs) lawM 1482 [some (.retAddr 5), some (.ref 1), some (.ref 39), some (.int (nI i))] [] h2 rr h' → Rn (L, xs) lawM 720 [some (.retAddr 5), some (.ref 1), some (.ref 39), some (.int (nI i))] [] h rr h' := by
  have b1 : inB (nI i + 1) L = true := lw_in hL hi (j := 1) (by decide) rfl
  have b2 : inB (nI i + 2) L = true := lw_in hL hi (j := 2) (by decide) rfl
  obtain ⟨v, h1, h2, X, M, k1, k2, I2⟩ := ((op_ofPart (sc := (L, xs)) I.1 (xs (nI i + 1).toNatClampNeg) (xs (nI i + 2).toNatClampNeg)).v I).int rfl rfl I.1
  refine ⟨h2, I2, fun rr h' K => ?_⟩
  refine law_sub sl_11_ok [1482] 90 ?_
  refine And.intro b1 ?_
  refine And.intro b2 ?_
  refine And.intro ⟨rfl, k1⟩ (And.intro rfl (Exists.intro _ (Exists.intro _ (And.intro (X) ?_))))
  refine And.intro b1 ?_
  refine And.intro b2 ?_
  refine And.intro ⟨rfl, k2⟩ (And.intro rfl (Exists.intro _ (Exists.intro _ (And.intro (M) ?_))))
  refine br_t rfl ?_
  exact K
def sl_12 : List Rw := [(753, 754, .aload_n 1, 0, .null), (754, 755, .aload_n 0, 0, .null), (755, 756, .iload_n 3, 0, .null), (756, 757, .iconst 1, 0, .int 1), (757, 758, .iadd, 0, .null), (758, 759, .iaload, 0, .null), (759, 760, .aload_n 0, 0, .null), (760, 761, .iload_n 3, 0, .null), (761, 762, .iconst 2, 0, .int 2), (762, 763, .iadd, 0, .null), (763, 764, .iaload, 0, .null), (764, 767, .invokevirtual 67, 0, .null), (767, 768, .aload_n 2, 0, .null), (768, 769, .aload_n 0, 0, .null), (769, 770, .iload_n 3, 0, .null), (770, 771, .iconst 1, 0, .int 1), (771, 772, .iadd, 0, .null), (772, 773, .iaload, 0, .null), (773, 774, .aload_n 0, 0, .null), (774, 775, .iload_n 3, 0, .null), (775, 776, .iconst 2, 0, .int 2), (776, 777, .iadd, 0, .null), (777, 778, .iaload, 0, .null), (778, 781, .invokevirtual 70, 0, .null), (781, 784, .if_icmp .eq 701, 1482, .null), (784, 785, .iconst 0, 0, .int 0), (785, 786, .ireturn, 0, .null)]
theorem sl_12_ok : ∀ row ∈ sl_12, cAt ct221 row.1 = some row := by decide +kernel
theorem ls_12 {L i : Nat} {xs : Nat → Int32} {h : Hp} (hL : L ≤ 3072) (hi : i + 6 ≤ L) (I : Inv h) : ∃ h2, Inv h2 ∧ ∀ (rr : Option Value) (h' : Hp), Rn (L, xs) lawM 1482 [some (.retAddr 5), some (.ref 1), some (.ref 39), some (.int (nI i))] [] h2 rr h' → Rn (L, xs) lawM 753 [some (.retAddr 5), some (.ref 1), some (.ref 39), some (.int (nI i))] [] h rr h' := by
  have b1 : inB (nI i + 1) L = true := lw_in hL hi (j := 1) (by decide) rfl
  have b2 : inB (nI i + 2) L = true := lw_in hL hi (j := 2) (by decide) rfl
  obtain ⟨v, h1, h2, X, M, k1, k2, I2⟩ := ((op_at (sc := (L, xs)) I.1 (xs (nI i + 1).toNatClampNeg) (xs (nI i + 2).toNatClampNeg)).v I).int rfl rfl I.1
  refine ⟨h2, I2, fun rr h' K => ?_⟩
  refine law_sub sl_12_ok [1482] 90 ?_
  refine And.intro b1 ?_
  refine And.intro b2 ?_
  refine And.intro ⟨rfl, k1⟩ (And.intro rfl (Exists.intro _ (Exists.intro _ (And.intro (X) ?_))))
  refine And.intro b1 ?_
  refine And.intro b2 ?_
  refine And.intro ⟨rfl, k2⟩ (And.intro rfl (Exists.intro _ (Exists.intro _ (And.intro (M) ?_))))
  refine br_t rfl ?_
  exact K
def sl_13 : List Rw := [(786, 787, .aload_n 1, 0, .null), (787, 788, .aload_n 0, 0, .null), (788, 789, .iload_n 3, 0, .null), (789, 790, .iconst 1, 0, .int 1), (790, 791, .iadd, 0, .null), (791, 792, .iaload, 0, .null), (792, 793, .aload_n 0, 0, .null), (793, 794, .iload_n 3, 0, .null), (794, 795, .iconst 2, 0, .int 2), (795, 796, .iadd, 0, .null), (796, 797, .iaload, 0, .null), (797, 800, .invokevirtual 71, 0, .null), (800, 801, .aload_n 2, 0, .null), (801, 802, .aload_n 0, 0, .null), (802, 803, .iload_n 3, 0, .null), (803, 804, .iconst 1, 0, .int 1), (804, 805, .iadd, 0, .null), (805, 806, .iaload, 0, .null), (806, 807, .aload_n 0, 0, .null), (807, 808, .iload_n 3, 0, .null), (808, 809, .iconst 2, 0, .int 2), (809, 810, .iadd, 0, .null), (810, 811, .iaload, 0, .null), (811, 814, .invokevirtual 74, 0, .null), (814, 817, .if_icmp .eq 668, 1482, .null), (817, 818, .iconst 0, 0, .int 0), (818, 819, .ireturn, 0, .null)]
theorem sl_13_ok : ∀ row ∈ sl_13, cAt ct221 row.1 = some row := by decide +kernel
theorem ls_13 {L i : Nat} {xs : Nat → Int32} {h : Hp} (hL : L ≤ 3072) (hi : i + 6 ≤ L) (I : Inv h) : ∃ h2, Inv h2 ∧ ∀ (rr : Option Value) (h' : Hp), Rn (L, xs) lawM 1482 [some (.retAddr 5), some (.ref 1), some (.ref 39), some (.int (nI i))] [] h2 rr h' → Rn (L, xs) lawM 786 [some (.retAddr 5), some (.ref 1), some (.ref 39), some (.int (nI i))] [] h rr h' := by
  have b1 : inB (nI i + 1) L = true := lw_in hL hi (j := 1) (by decide) rfl
  have b2 : inB (nI i + 2) L = true := lw_in hL hi (j := 2) (by decide) rfl
  obtain ⟨v, h1, h2, X, M, k1, k2, I2⟩ := ((op_fits (sc := (L, xs)) I.1 (xs (nI i + 1).toNatClampNeg) (xs (nI i + 2).toNatClampNeg)).v I).int rfl rfl I.1
  refine ⟨h2, I2, fun rr h' K => ?_⟩
  refine law_sub sl_13_ok [1482] 90 ?_
  refine And.intro b1 ?_
  refine And.intro b2 ?_
  refine And.intro ⟨rfl, k1⟩ (And.intro rfl (Exists.intro _ (Exists.intro _ (And.intro (X) ?_))))
  refine And.intro b1 ?_
  refine And.intro b2 ?_
  refine And.intro ⟨rfl, k2⟩ (And.intro rfl (Exists.intro _ (Exists.intro _ (And.intro (M) ?_))))
  refine br_t rfl ?_
  exact K
def sl_14 : List Rw := [(819, 820, .aload_n 1, 0, .null), (820, 821, .aload_n 0, 0, .null), (821, 822, .iload_n 3, 0, .null), (822, 823, .iconst 1, 0, .int 1), (823, 824, .iadd, 0, .null), (824, 825, .iaload, 0, .null), (825, 826, .aload_n 0, 0, .null), (826, 827, .iload_n 3, 0, .null), (827, 828, .iconst 2, 0, .int 2), (828, 829, .iadd, 0, .null), (829, 830, .iaload, 0, .null), (830, 831, .aload_n 0, 0, .null), (831, 832, .iload_n 3, 0, .null), (832, 833, .iconst 3, 0, .int 3), (833, 834, .iadd, 0, .null), (834, 835, .iaload, 0, .null), (835, 836, .aload_n 0, 0, .null), (836, 837, .iload_n 3, 0, .null), (837, 838, .iconst 4, 0, .int 4), (838, 839, .iadd, 0, .null), (839, 840, .iaload, 0, .null), (840, 843, .invokevirtual 75, 0, .null), (843, 844, .aload_n 2, 0, .null), (844, 845, .aload_n 0, 0, .null), (845, 846, .iload_n 3, 0, .null), (846, 847, .iconst 1, 0, .int 1), (847, 848, .iadd, 0, .null), (848, 849, .iaload, 0, .null), (849, 850, .aload_n 0, 0, .null), (850, 851, .iload_n 3, 0, .null), (851, 852, .iconst 2, 0, .int 2), (852, 853, .iadd, 0, .null), (853, 854, .iaload, 0, .null), (854, 855, .aload_n 0, 0, .null), (855, 856, .iload_n 3, 0, .null), (856, 857, .iconst 3, 0, .int 3), (857, 858, .iadd, 0, .null), (858, 859, .iaload, 0, .null), (859, 860, .aload_n 0, 0, .null), (860, 861, .iload_n 3, 0, .null), (861, 862, .iconst 4, 0, .int 4), (862, 863, .iadd, 0, .null), (863, 864, .iaload, 0, .null), (864, 867, .invokevirtual 78, 0, .null), (867, 870, .if_icmp .eq 615, 1482, .null), (870, 871, .iconst 0, 0, .int 0), (871, 872, .ireturn, 0, .null)]
theorem sl_14_ok : ∀ row ∈ sl_14, cAt ct221 row.1 = some row := by decide +kernel
theorem ls_14 {L i : Nat} {xs : Nat → Int32} {h : Hp} (hL : L ≤ 3072) (hi : i + 6 ≤ L) (I : Inv h) : ∃ h2, Inv h2 ∧ ∀ (rr : Option Value) (h' : Hp), Rn (L, xs) lawM 1482 [some (.retAddr 5), some (.ref 1), some (.ref 39), some (.int (nI i))] [] h2 rr h' → Rn (L, xs) lawM 819 [some (.retAddr 5), some (.ref 1), some (.ref 39), some (.int (nI i))] [] h rr h' := by
  have b1 : inB (nI i + 1) L = true := lw_in hL hi (j := 1) (by decide) rfl
  have b2 : inB (nI i + 2) L = true := lw_in hL hi (j := 2) (by decide) rfl
  have b3 : inB (nI i + 3) L = true := lw_in hL hi (j := 3) (by decide) rfl
  have b4 : inB (nI i + 4) L = true := lw_in hL hi (j := 4) (by decide) rfl
  obtain ⟨v, h1, h2, X, M, k1, k2, I2⟩ := ((op_move (sc := (L, xs)) I.1 (xs (nI i + 1).toNatClampNeg) (xs (nI i + 2).toNatClampNeg) (xs (nI i + 3).toNatClampNeg) (xs (nI i + 4).toNatClampNeg)).v I).int rfl rfl I.1
  refine ⟨h2, I2, fun rr h' K => ?_⟩
  refine law_sub sl_14_ok [1482] 90 ?_
  refine And.intro b1 ?_
  refine And.intro b2 ?_
  refine And.intro b3 ?_
  refine And.intro b4 ?_
  refine And.intro ⟨rfl, k1⟩ (And.intro rfl (Exists.intro _ (Exists.intro _ (And.intro (X) ?_))))
  refine And.intro b1 ?_
  refine And.intro b2 ?_
  refine And.intro b3 ?_
  refine And.intro b4 ?_
  refine And.intro ⟨rfl, k2⟩ (And.intro rfl (Exists.intro _ (Exists.intro _ (And.intro (M) ?_))))
  refine br_t rfl ?_
  exact K
def sl_15 : List Rw := [(872, 873, .aload_n 1, 0, .null), (873, 874, .aload_n 0, 0, .null), (874, 875, .iload_n 3, 0, .null), (875, 876, .iconst 1, 0, .int 1), (876, 877, .iadd, 0, .null), (877, 878, .iaload, 0, .null), (878, 879, .aload_n 0, 0, .null), (879, 880, .iload_n 3, 0, .null), (880, 881, .iconst 2, 0, .int 2), (881, 882, .iadd, 0, .null), (882, 883, .iaload, 0, .null), (883, 886, .ifCond .eq 7, 890, .null), (886, 887, .iconst 1, 0, .int 1), (887, 890, .goto 4, 891, .null), (890, 891, .iconst 0, 0, .int 0), (891, 894, .invokevirtual 79, 0, .null), (894, 895, .aload_n 2, 0, .null), (895, 896, .aload_n 0, 0, .null), (896, 897, .iload_n 3, 0, .null), (897, 898, .iconst 1, 0, .int 1), (898, 899, .iadd, 0, .null), (899, 900, .iaload, 0, .null), (900, 901, .aload_n 0, 0, .null), (901, 902, .iload_n 3, 0, .null), (902, 903, .iconst 2, 0, .int 2), (903, 904, .iadd, 0, .null), (904, 905, .iaload, 0, .null), (905, 908, .ifCond .eq 7, 912, .null), (908, 909, .iconst 1, 0, .int 1), (909, 912, .goto 4, 913, .null), (912, 913, .iconst 0, 0, .int 0), (913, 916, .invokevirtual 83, 0, .null), (916, 919, .if_icmp .eq 566, 1482, .null), (919, 920, .iconst 0, 0, .int 0), (920, 921, .ireturn, 0, .null)]
theorem sl_15_ok : ∀ row ∈ sl_15, cAt ct221 row.1 = some row := by decide +kernel
theorem ls_15 {L i : Nat} {xs : Nat → Int32} {h : Hp} (hL : L ≤ 3072) (hi : i + 6 ≤ L) (I : Inv h) : ∃ h2, Inv h2 ∧ ∀ (rr : Option Value) (h' : Hp), Rn (L, xs) lawM 1482 [some (.retAddr 5), some (.ref 1), some (.ref 39), some (.int (nI i))] [] h2 rr h' → Rn (L, xs) lawM 872 [some (.retAddr 5), some (.ref 1), some (.ref 39), some (.int (nI i))] [] h rr h' := by
  have b1 : inB (nI i + 1) L = true := lw_in hL hi (j := 1) (by decide) rfl
  have b2 : inB (nI i + 2) L = true := lw_in hL hi (j := 2) (by decide) rfl
  by_cases q : xs (nI i + 2).toNatClampNeg = 0
  · obtain ⟨v, h1, h2, X, M, k1, k2, I2⟩ := ((op_mend (sc := (L, xs)) I.1 (xs (nI i + 1).toNatClampNeg) false).v I).int rfl rfl I.1
    refine ⟨h2, I2, fun rr h' K => ?_⟩
    refine law_sub sl_15_ok [1482] 90 ?_
    refine And.intro b1 ?_
    refine And.intro b2 ?_
    refine br_t q ?_
    refine And.intro ⟨rfl, k1⟩ (And.intro rfl (Exists.intro _ (Exists.intro _ (And.intro (X) ?_))))
    refine And.intro b1 ?_
    refine And.intro b2 ?_
    refine br_t q ?_
    refine And.intro ⟨rfl, k2⟩ (And.intro rfl (Exists.intro _ (Exists.intro _ (And.intro (M) ?_))))
    refine br_t rfl ?_
    exact K
  · obtain ⟨v, h1, h2, X, M, k1, k2, I2⟩ := ((op_mend (sc := (L, xs)) I.1 (xs (nI i + 1).toNatClampNeg) true).v I).int rfl rfl I.1
    refine ⟨h2, I2, fun rr h' K => ?_⟩
    refine law_sub sl_15_ok [1482] 90 ?_
    refine And.intro b1 ?_
    refine And.intro b2 ?_
    refine br_f q ?_
    refine And.intro ⟨rfl, k1⟩ (And.intro rfl (Exists.intro _ (Exists.intro _ (And.intro (X) ?_))))
    refine And.intro b1 ?_
    refine And.intro b2 ?_
    refine br_f q ?_
    refine And.intro ⟨rfl, k2⟩ (And.intro rfl (Exists.intro _ (Exists.intro _ (And.intro (M) ?_))))
    refine br_t rfl ?_
    exact K
def sl_16 : List Rw := [(921, 922, .aload_n 1, 0, .null), (922, 923, .aload_n 0, 0, .null), (923, 924, .iload_n 3, 0, .null), (924, 925, .iconst 1, 0, .int 1), (925, 926, .iadd, 0, .null), (926, 927, .iaload, 0, .null), (927, 928, .aload_n 0, 0, .null), (928, 929, .iload_n 3, 0, .null), (929, 930, .iconst 2, 0, .int 2), (930, 931, .iadd, 0, .null), (931, 932, .iaload, 0, .null), (932, 935, .ifCond .eq 7, 939, .null), (935, 936, .iconst 1, 0, .int 1), (936, 939, .goto 4, 940, .null), (939, 940, .iconst 0, 0, .int 0), (940, 943, .invokevirtual 84, 0, .null), (943, 944, .aload_n 2, 0, .null), (944, 945, .aload_n 0, 0, .null), (945, 946, .iload_n 3, 0, .null), (946, 947, .iconst 1, 0, .int 1), (947, 948, .iadd, 0, .null), (948, 949, .iaload, 0, .null), (949, 950, .aload_n 0, 0, .null), (950, 951, .iload_n 3, 0, .null), (951, 952, .iconst 2, 0, .int 2), (952, 953, .iadd, 0, .null), (953, 954, .iaload, 0, .null), (954, 957, .ifCond .eq 7, 961, .null), (957, 958, .iconst 1, 0, .int 1), (958, 961, .goto 4, 962, .null), (961, 962, .iconst 0, 0, .int 0), (962, 965, .invokevirtual 87, 0, .null), (965, 968, .if_icmp .eq 517, 1482, .null), (968, 969, .iconst 0, 0, .int 0), (969, 970, .ireturn, 0, .null)]
theorem sl_16_ok : ∀ row ∈ sl_16, cAt ct221 row.1 = some row := by decide +kernel
theorem ls_16 {L i : Nat} {xs : Nat → Int32} {h : Hp} (hL : L ≤ 3072) (hi : i + 6 ≤ L) (I : Inv h) : ∃ h2, Inv h2 ∧ ∀ (rr : Option Value) (h' : Hp), Rn (L, xs) lawM 1482 [some (.retAddr 5), some (.ref 1), some (.ref 39), some (.int (nI i))] [] h2 rr h' → Rn (L, xs) lawM 921 [some (.retAddr 5), some (.ref 1), some (.ref 39), some (.int (nI i))] [] h rr h' := by
  have b1 : inB (nI i + 1) L = true := lw_in hL hi (j := 1) (by decide) rfl
  have b2 : inB (nI i + 2) L = true := lw_in hL hi (j := 2) (by decide) rfl
  by_cases q : xs (nI i + 2).toNatClampNeg = 0
  · obtain ⟨v, h1, h2, X, M, k1, k2, I2⟩ := ((op_hide (sc := (L, xs)) I.1 (xs (nI i + 1).toNatClampNeg) false).v I).int rfl rfl I.1
    refine ⟨h2, I2, fun rr h' K => ?_⟩
    refine law_sub sl_16_ok [1482] 90 ?_
    refine And.intro b1 ?_
    refine And.intro b2 ?_
    refine br_t q ?_
    refine And.intro ⟨rfl, k1⟩ (And.intro rfl (Exists.intro _ (Exists.intro _ (And.intro (X) ?_))))
    refine And.intro b1 ?_
    refine And.intro b2 ?_
    refine br_t q ?_
    refine And.intro ⟨rfl, k2⟩ (And.intro rfl (Exists.intro _ (Exists.intro _ (And.intro (M) ?_))))
    refine br_t rfl ?_
    exact K
  · obtain ⟨v, h1, h2, X, M, k1, k2, I2⟩ := ((op_hide (sc := (L, xs)) I.1 (xs (nI i + 1).toNatClampNeg) true).v I).int rfl rfl I.1
    refine ⟨h2, I2, fun rr h' K => ?_⟩
    refine law_sub sl_16_ok [1482] 90 ?_
    refine And.intro b1 ?_
    refine And.intro b2 ?_
    refine br_f q ?_
    refine And.intro ⟨rfl, k1⟩ (And.intro rfl (Exists.intro _ (Exists.intro _ (And.intro (X) ?_))))
    refine And.intro b1 ?_
    refine And.intro b2 ?_
    refine br_f q ?_
    refine And.intro ⟨rfl, k2⟩ (And.intro rfl (Exists.intro _ (Exists.intro _ (And.intro (M) ?_))))
    refine br_t rfl ?_
    exact K
def sl_17 : List Rw := [(970, 971, .aload_n 1, 0, .null), (971, 972, .aload_n 0, 0, .null), (972, 973, .iload_n 3, 0, .null), (973, 974, .iconst 1, 0, .int 1), (974, 975, .iadd, 0, .null), (975, 976, .iaload, 0, .null), (976, 979, .invokevirtual 88, 0, .null), (979, 980, .aload_n 2, 0, .null), (980, 981, .aload_n 0, 0, .null), (981, 982, .iload_n 3, 0, .null), (982, 983, .iconst 1, 0, .int 1), (983, 984, .iadd, 0, .null), (984, 985, .iaload, 0, .null), (985, 988, .invokevirtual 92, 0, .null), (988, 991, .if_icmp .eq 494, 1482, .null), (991, 992, .iconst 0, 0, .int 0), (992, 993, .ireturn, 0, .null)]
theorem sl_17_ok : ∀ row ∈ sl_17, cAt ct221 row.1 = some row := by decide +kernel
theorem ls_17 {L i : Nat} {xs : Nat → Int32} {h : Hp} (hL : L ≤ 3072) (hi : i + 6 ≤ L) (I : Inv h) : ∃ h2, Inv h2 ∧ ∀ (rr : Option Value) (h' : Hp), Rn (L, xs) lawM 1482 [some (.retAddr 5), some (.ref 1), some (.ref 39), some (.int (nI i))] [] h2 rr h' → Rn (L, xs) lawM 970 [some (.retAddr 5), some (.ref 1), some (.ref 39), some (.int (nI i))] [] h rr h' := by
  have b1 : inB (nI i + 1) L = true := lw_in hL hi (j := 1) (by decide) rfl
  obtain ⟨v, h1, h2, X, M, k1, k2, I2⟩ := ((op_spoils (sc := (L, xs)) I.1 (xs (nI i + 1).toNatClampNeg)).v I).int rfl rfl I.1
  refine ⟨h2, I2, fun rr h' K => ?_⟩
  refine law_sub sl_17_ok [1482] 90 ?_
  refine And.intro b1 ?_
  refine And.intro ⟨rfl, k1⟩ (And.intro rfl (Exists.intro _ (Exists.intro _ (And.intro (X) ?_))))
  refine And.intro b1 ?_
  refine And.intro ⟨rfl, k2⟩ (And.intro rfl (Exists.intro _ (Exists.intro _ (And.intro (M) ?_))))
  refine br_t rfl ?_
  exact K
def sl_18 : List Rw := [(993, 994, .aload_n 1, 0, .null), (994, 995, .aload_n 0, 0, .null), (995, 996, .iload_n 3, 0, .null), (996, 997, .iconst 1, 0, .int 1), (997, 998, .iadd, 0, .null), (998, 999, .iaload, 0, .null), (999, 1000, .aload_n 0, 0, .null), (1000, 1001, .iload_n 3, 0, .null), (1001, 1002, .iconst 2, 0, .int 2), (1002, 1003, .iadd, 0, .null), (1003, 1004, .iaload, 0, .null), (1004, 1007, .invokevirtual 93, 0, .null), (1007, 1008, .aload_n 2, 0, .null), (1008, 1009, .aload_n 0, 0, .null), (1009, 1010, .iload_n 3, 0, .null), (1010, 1011, .iconst 1, 0, .int 1), (1011, 1012, .iadd, 0, .null), (1012, 1013, .iaload, 0, .null), (1013, 1014, .aload_n 0, 0, .null), (1014, 1015, .iload_n 3, 0, .null), (1015, 1016, .iconst 2, 0, .int 2), (1016, 1017, .iadd, 0, .null), (1017, 1018, .iaload, 0, .null), (1018, 1021, .invokevirtual 96, 0, .null), (1021, 1024, .if_icmp .eq 461, 1482, .null), (1024, 1025, .iconst 0, 0, .int 0), (1025, 1026, .ireturn, 0, .null)]
theorem sl_18_ok : ∀ row ∈ sl_18, cAt ct221 row.1 = some row := by decide +kernel
theorem ls_18 {L i : Nat} {xs : Nat → Int32} {h : Hp} (hL : L ≤ 3072) (hi : i + 6 ≤ L) (I : Inv h) : ∃ h2, Inv h2 ∧ ∀ (rr : Option Value) (h' : Hp), Rn (L, xs) lawM 1482 [some (.retAddr 5), some (.ref 1), some (.ref 39), some (.int (nI i))] [] h2 rr h' → Rn (L, xs) lawM 993 [some (.retAddr 5), some (.ref 1), some (.ref 39), some (.int (nI i))] [] h rr h' := by
  have b1 : inB (nI i + 1) L = true := lw_in hL hi (j := 1) (by decide) rfl
  have b2 : inB (nI i + 2) L = true := lw_in hL hi (j := 2) (by decide) rfl
  obtain ⟨v, h1, h2, X, M, k1, k2, I2⟩ := ((op_odds (sc := (L, xs)) I.1 (xs (nI i + 1).toNatClampNeg) (xs (nI i + 2).toNatClampNeg)).v I).int rfl rfl I.1
  refine ⟨h2, I2, fun rr h' K => ?_⟩
  refine law_sub sl_18_ok [1482] 90 ?_
  refine And.intro b1 ?_
  refine And.intro b2 ?_
  refine And.intro ⟨rfl, k1⟩ (And.intro rfl (Exists.intro _ (Exists.intro _ (And.intro (X) ?_))))
  refine And.intro b1 ?_
  refine And.intro b2 ?_
  refine And.intro ⟨rfl, k2⟩ (And.intro rfl (Exists.intro _ (Exists.intro _ (And.intro (M) ?_))))
  refine br_t rfl ?_
  exact K
def sl_19 : List Rw := [(1026, 1027, .aload_n 1, 0, .null), (1027, 1030, .invokevirtual 97, 0, .null), (1030, 1031, .aload_n 2, 0, .null), (1031, 1034, .invokevirtual 101, 0, .null), (1034, 1037, .if_icmp .eq 448, 1482, .null), (1037, 1038, .iconst 0, 0, .int 0), (1038, 1039, .ireturn, 0, .null)]
theorem sl_19_ok : ∀ row ∈ sl_19, cAt ct221 row.1 = some row := by decide +kernel
theorem ls_19 {L i : Nat} {xs : Nat → Int32} {h : Hp} (hL : L ≤ 3072) (hi : i + 6 ≤ L) (I : Inv h) : ∃ h2, Inv h2 ∧ ∀ (rr : Option Value) (h' : Hp), Rn (L, xs) lawM 1482 [some (.retAddr 5), some (.ref 1), some (.ref 39), some (.int (nI i))] [] h2 rr h' → Rn (L, xs) lawM 1026 [some (.retAddr 5), some (.ref 1), some (.ref 39), some (.int (nI i))] [] h rr h' := by
  obtain ⟨v, h1, h2, X, M, k1, k2, I2⟩ := ((op_runs (sc := (L, xs)) I.1).v I).int rfl rfl I.1
  refine ⟨h2, I2, fun rr h' K => ?_⟩
  refine law_sub sl_19_ok [1482] 90 ?_
  refine And.intro ⟨rfl, k1⟩ (And.intro rfl (Exists.intro _ (Exists.intro _ (And.intro (X) ?_))))
  refine And.intro ⟨rfl, k2⟩ (And.intro rfl (Exists.intro _ (Exists.intro _ (And.intro (M) ?_))))
  refine br_t rfl ?_
  exact K
def sl_20 : List Rw := [(1039, 1040, .aload_n 1, 0, .null), (1040, 1041, .aload_n 0, 0, .null), (1041, 1042, .iload_n 3, 0, .null), (1042, 1043, .iconst 1, 0, .int 1), (1043, 1044, .iadd, 0, .null), (1044, 1045, .iaload, 0, .null), (1045, 1048, .invokevirtual 102, 0, .null), (1048, 1049, .aload_n 2, 0, .null), (1049, 1050, .aload_n 0, 0, .null), (1050, 1051, .iload_n 3, 0, .null), (1051, 1052, .iconst 1, 0, .int 1), (1052, 1053, .iadd, 0, .null), (1053, 1054, .iaload, 0, .null), (1054, 1057, .invokevirtual 105, 0, .null), (1057, 1060, .if_icmp .eq 425, 1482, .null), (1060, 1061, .iconst 0, 0, .int 0), (1061, 1062, .ireturn, 0, .null)]
theorem sl_20_ok : ∀ row ∈ sl_20, cAt ct221 row.1 = some row := by decide +kernel
theorem ls_20 {L i : Nat} {xs : Nat → Int32} {h : Hp} (hL : L ≤ 3072) (hi : i + 6 ≤ L) (I : Inv h) : ∃ h2, Inv h2 ∧ ∀ (rr : Option Value) (h' : Hp), Rn (L, xs) lawM 1482 [some (.retAddr 5), some (.ref 1), some (.ref 39), some (.int (nI i))] [] h2 rr h' → Rn (L, xs) lawM 1039 [some (.retAddr 5), some (.ref 1), some (.ref 39), some (.int (nI i))] [] h rr h' := by
  have b1 : inB (nI i + 1) L = true := lw_in hL hi (j := 1) (by decide) rfl
  obtain ⟨v, h1, h2, X, M, k1, k2, I2⟩ := ((op_most (sc := (L, xs)) I.1 I.2.2 (xs (nI i + 1).toNatClampNeg)).v I).int rfl rfl I.1
  refine ⟨h2, I2, fun rr h' K => ?_⟩
  refine law_sub sl_20_ok [1482] 90 ?_
  refine And.intro b1 ?_
  refine And.intro ⟨rfl, k1⟩ (And.intro rfl (Exists.intro _ (Exists.intro _ (And.intro (X) ?_))))
  refine And.intro b1 ?_
  refine And.intro ⟨rfl, k2⟩ (And.intro rfl (Exists.intro _ (Exists.intro _ (And.intro (M) ?_))))
  refine br_t rfl ?_
  exact K
def sl_21 : List Rw := [(1062, 1063, .aload_n 1, 0, .null), (1063, 1064, .aload_n 0, 0, .null), (1064, 1065, .iload_n 3, 0, .null), (1065, 1066, .iconst 1, 0, .int 1), (1066, 1067, .iadd, 0, .null), (1067, 1068, .iaload, 0, .null), (1068, 1071, .invokevirtual 106, 0, .null), (1071, 1072, .aload_n 2, 0, .null), (1072, 1073, .aload_n 0, 0, .null), (1073, 1074, .iload_n 3, 0, .null), (1074, 1075, .iconst 1, 0, .int 1), (1075, 1076, .iadd, 0, .null), (1076, 1077, .iaload, 0, .null), (1077, 1080, .invokevirtual 109, 0, .null), (1080, 1083, .if_icmp .eq 402, 1482, .null), (1083, 1084, .iconst 0, 0, .int 0), (1084, 1085, .ireturn, 0, .null)]
theorem sl_21_ok : ∀ row ∈ sl_21, cAt ct221 row.1 = some row := by decide +kernel
theorem ls_21 {L i : Nat} {xs : Nat → Int32} {h : Hp} (hL : L ≤ 3072) (hi : i + 6 ≤ L) (I : Inv h) : ∃ h2, Inv h2 ∧ ∀ (rr : Option Value) (h' : Hp), Rn (L, xs) lawM 1482 [some (.retAddr 5), some (.ref 1), some (.ref 39), some (.int (nI i))] [] h2 rr h' → Rn (L, xs) lawM 1062 [some (.retAddr 5), some (.ref 1), some (.ref 39), some (.int (nI i))] [] h rr h' := by
  have b1 : inB (nI i + 1) L = true := lw_in hL hi (j := 1) (by decide) rfl
  obtain ⟨v, h1, h2, X, M, k1, k2, I2⟩ := ((op_goes (sc := (L, xs)) I.1 I.2.2 (xs (nI i + 1).toNatClampNeg)).v I).int rfl rfl I.1
  refine ⟨h2, I2, fun rr h' K => ?_⟩
  refine law_sub sl_21_ok [1482] 90 ?_
  refine And.intro b1 ?_
  refine And.intro ⟨rfl, k1⟩ (And.intro rfl (Exists.intro _ (Exists.intro _ (And.intro (X) ?_))))
  refine And.intro b1 ?_
  refine And.intro ⟨rfl, k2⟩ (And.intro rfl (Exists.intro _ (Exists.intro _ (And.intro (M) ?_))))
  refine br_t rfl ?_
  exact K
def sl_22 : List Rw := [(1085, 1086, .aload_n 1, 0, .null), (1086, 1087, .aload_n 0, 0, .null), (1087, 1088, .iload_n 3, 0, .null), (1088, 1089, .iconst 1, 0, .int 1), (1089, 1090, .iadd, 0, .null), (1090, 1091, .iaload, 0, .null), (1091, 1092, .aload_n 0, 0, .null), (1092, 1093, .iload_n 3, 0, .null), (1093, 1094, .iconst 2, 0, .int 2), (1094, 1095, .iadd, 0, .null), (1095, 1096, .iaload, 0, .null), (1096, 1097, .aload_n 0, 0, .null), (1097, 1098, .iload_n 3, 0, .null), (1098, 1099, .iconst 3, 0, .int 3), (1099, 1100, .iadd, 0, .null), (1100, 1101, .iaload, 0, .null), (1101, 1102, .aload_n 0, 0, .null), (1102, 1103, .iload_n 3, 0, .null), (1103, 1104, .iconst 4, 0, .int 4), (1104, 1105, .iadd, 0, .null), (1105, 1106, .iaload, 0, .null), (1106, 1109, .invokevirtual 110, 0, .null), (1109, 1110, .aload_n 2, 0, .null), (1110, 1111, .aload_n 0, 0, .null), (1111, 1112, .iload_n 3, 0, .null), (1112, 1113, .iconst 1, 0, .int 1), (1113, 1114, .iadd, 0, .null), (1114, 1115, .iaload, 0, .null), (1115, 1116, .aload_n 0, 0, .null), (1116, 1117, .iload_n 3, 0, .null), (1117, 1118, .iconst 2, 0, .int 2), (1118, 1119, .iadd, 0, .null), (1119, 1120, .iaload, 0, .null), (1120, 1121, .aload_n 0, 0, .null), (1121, 1122, .iload_n 3, 0, .null), (1122, 1123, .iconst 3, 0, .int 3), (1123, 1124, .iadd, 0, .null), (1124, 1125, .iaload, 0, .null), (1125, 1126, .aload_n 0, 0, .null), (1126, 1127, .iload_n 3, 0, .null), (1127, 1128, .iconst 4, 0, .int 4), (1128, 1129, .iadd, 0, .null), (1129, 1130, .iaload, 0, .null), (1130, 1133, .invokevirtual 113, 0, .null), (1133, 1136, .if_icmp .eq 349, 1482, .null), (1136, 1137, .iconst 0, 0, .int 0), (1137, 1138, .ireturn, 0, .null)]
theorem sl_22_ok : ∀ row ∈ sl_22, cAt ct221 row.1 = some row := by decide +kernel
theorem ls_22 {L i : Nat} {xs : Nat → Int32} {h : Hp} (hL : L ≤ 3072) (hi : i + 6 ≤ L) (I : Inv h) : ∃ h2, Inv h2 ∧ ∀ (rr : Option Value) (h' : Hp), Rn (L, xs) lawM 1482 [some (.retAddr 5), some (.ref 1), some (.ref 39), some (.int (nI i))] [] h2 rr h' → Rn (L, xs) lawM 1085 [some (.retAddr 5), some (.ref 1), some (.ref 39), some (.int (nI i))] [] h rr h' := by
  have b1 : inB (nI i + 1) L = true := lw_in hL hi (j := 1) (by decide) rfl
  have b2 : inB (nI i + 2) L = true := lw_in hL hi (j := 2) (by decide) rfl
  have b3 : inB (nI i + 3) L = true := lw_in hL hi (j := 3) (by decide) rfl
  have b4 : inB (nI i + 4) L = true := lw_in hL hi (j := 4) (by decide) rfl
  obtain ⟨v, h1, h2, X, M, k1, k2, I2⟩ := ((op_drive (sc := (L, xs)) I.1 (xs (nI i + 1).toNatClampNeg) (xs (nI i + 2).toNatClampNeg) (xs (nI i + 3).toNatClampNeg) (xs (nI i + 4).toNatClampNeg)).v I).int rfl rfl I.1
  refine ⟨h2, I2, fun rr h' K => ?_⟩
  refine law_sub sl_22_ok [1482] 90 ?_
  refine And.intro b1 ?_
  refine And.intro b2 ?_
  refine And.intro b3 ?_
  refine And.intro b4 ?_
  refine And.intro ⟨rfl, k1⟩ (And.intro rfl (Exists.intro _ (Exists.intro _ (And.intro (X) ?_))))
  refine And.intro b1 ?_
  refine And.intro b2 ?_
  refine And.intro b3 ?_
  refine And.intro b4 ?_
  refine And.intro ⟨rfl, k2⟩ (And.intro rfl (Exists.intro _ (Exists.intro _ (And.intro (M) ?_))))
  refine br_t rfl ?_
  exact K
def sl_23 : List Rw := [(1138, 1139, .aload_n 1, 0, .null), (1139, 1140, .aload_n 0, 0, .null), (1140, 1141, .iload_n 3, 0, .null), (1141, 1142, .iconst 1, 0, .int 1), (1142, 1143, .iadd, 0, .null), (1143, 1144, .iaload, 0, .null), (1144, 1145, .aload_n 0, 0, .null), (1145, 1146, .iload_n 3, 0, .null), (1146, 1147, .iconst 2, 0, .int 2), (1147, 1148, .iadd, 0, .null), (1148, 1149, .iaload, 0, .null), (1149, 1150, .aload_n 0, 0, .null), (1150, 1151, .iload_n 3, 0, .null), (1151, 1152, .iconst 3, 0, .int 3), (1152, 1153, .iadd, 0, .null), (1153, 1154, .iaload, 0, .null), (1154, 1157, .invokevirtual 114, 0, .null), (1157, 1158, .aload_n 2, 0, .null), (1158, 1159, .aload_n 0, 0, .null), (1159, 1160, .iload_n 3, 0, .null), (1160, 1161, .iconst 1, 0, .int 1), (1161, 1162, .iadd, 0, .null), (1162, 1163, .iaload, 0, .null), (1163, 1164, .aload_n 0, 0, .null), (1164, 1165, .iload_n 3, 0, .null), (1165, 1166, .iconst 2, 0, .int 2), (1166, 1167, .iadd, 0, .null), (1167, 1168, .iaload, 0, .null), (1168, 1169, .aload_n 0, 0, .null), (1169, 1170, .iload_n 3, 0, .null), (1170, 1171, .iconst 3, 0, .int 3), (1171, 1172, .iadd, 0, .null), (1172, 1173, .iaload, 0, .null), (1173, 1176, .invokevirtual 117, 0, .null), (1176, 1179, .if_icmp .eq 306, 1482, .null), (1179, 1180, .iconst 0, 0, .int 0), (1180, 1181, .ireturn, 0, .null)]
theorem sl_23_ok : ∀ row ∈ sl_23, cAt ct221 row.1 = some row := by decide +kernel
theorem ls_23 {L i : Nat} {xs : Nat → Int32} {h : Hp} (hL : L ≤ 3072) (hi : i + 6 ≤ L) (I : Inv h) : ∃ h2, Inv h2 ∧ ∀ (rr : Option Value) (h' : Hp), Rn (L, xs) lawM 1482 [some (.retAddr 5), some (.ref 1), some (.ref 39), some (.int (nI i))] [] h2 rr h' → Rn (L, xs) lawM 1138 [some (.retAddr 5), some (.ref 1), some (.ref 39), some (.int (nI i))] [] h rr h' := by
  have b1 : inB (nI i + 1) L = true := lw_in hL hi (j := 1) (by decide) rfl
  have b2 : inB (nI i + 2) L = true := lw_in hL hi (j := 2) (by decide) rfl
  have b3 : inB (nI i + 3) L = true := lw_in hL hi (j := 3) (by decide) rfl
  obtain ⟨v, h1, h2, X, M, k1, k2, I2⟩ := ((op_sheet (sc := (L, xs)) I.1 (xs (nI i + 1).toNatClampNeg) (xs (nI i + 2).toNatClampNeg) (xs (nI i + 3).toNatClampNeg)).v I).int rfl rfl I.1
  refine ⟨h2, I2, fun rr h' K => ?_⟩
  refine law_sub sl_23_ok [1482] 90 ?_
  refine And.intro b1 ?_
  refine And.intro b2 ?_
  refine And.intro b3 ?_
  refine And.intro ⟨rfl, k1⟩ (And.intro rfl (Exists.intro _ (Exists.intro _ (And.intro (X) ?_))))
  refine And.intro b1 ?_
  refine And.intro b2 ?_
  refine And.intro b3 ?_
  refine And.intro ⟨rfl, k2⟩ (And.intro rfl (Exists.intro _ (Exists.intro _ (And.intro (M) ?_))))
  refine br_t rfl ?_
  exact K
def sl_24 : List Rw := [(1181, 1182, .aload_n 1, 0, .null), (1182, 1183, .aload_n 0, 0, .null), (1183, 1184, .iload_n 3, 0, .null), (1184, 1185, .iconst 1, 0, .int 1), (1185, 1186, .iadd, 0, .null), (1186, 1187, .iaload, 0, .null), (1187, 1190, .invokevirtual 118, 0, .null), (1190, 1191, .aload_n 2, 0, .null), (1191, 1192, .aload_n 0, 0, .null), (1192, 1193, .iload_n 3, 0, .null), (1193, 1194, .iconst 1, 0, .int 1), (1194, 1195, .iadd, 0, .null), (1195, 1196, .iaload, 0, .null), (1196, 1199, .invokevirtual 121, 0, .null), (1199, 1202, .if_icmp .eq 283, 1482, .null), (1202, 1203, .iconst 0, 0, .int 0), (1203, 1204, .ireturn, 0, .null)]
theorem sl_24_ok : ∀ row ∈ sl_24, cAt ct221 row.1 = some row := by decide +kernel
theorem ls_24 {L i : Nat} {xs : Nat → Int32} {h : Hp} (hL : L ≤ 3072) (hi : i + 6 ≤ L) (I : Inv h) : ∃ h2, Inv h2 ∧ ∀ (rr : Option Value) (h' : Hp), Rn (L, xs) lawM 1482 [some (.retAddr 5), some (.ref 1), some (.ref 39), some (.int (nI i))] [] h2 rr h' → Rn (L, xs) lawM 1181 [some (.retAddr 5), some (.ref 1), some (.ref 39), some (.int (nI i))] [] h rr h' := by
  have b1 : inB (nI i + 1) L = true := lw_in hL hi (j := 1) (by decide) rfl
  obtain ⟨v, h1, h2, X, M, k1, k2, I2⟩ := ((op_lose (sc := (L, xs)) I.1 (xs (nI i + 1).toNatClampNeg)).v I).int rfl rfl I.1
  refine ⟨h2, I2, fun rr h' K => ?_⟩
  refine law_sub sl_24_ok [1482] 90 ?_
  refine And.intro b1 ?_
  refine And.intro ⟨rfl, k1⟩ (And.intro rfl (Exists.intro _ (Exists.intro _ (And.intro (X) ?_))))
  refine And.intro b1 ?_
  refine And.intro ⟨rfl, k2⟩ (And.intro rfl (Exists.intro _ (Exists.intro _ (And.intro (M) ?_))))
  refine br_t rfl ?_
  exact K
def sl_25 : List Rw := [(1204, 1205, .aload_n 1, 0, .null), (1205, 1206, .aload_n 0, 0, .null), (1206, 1207, .iload_n 3, 0, .null), (1207, 1208, .iconst 1, 0, .int 1), (1208, 1209, .iadd, 0, .null), (1209, 1210, .iaload, 0, .null), (1210, 1211, .aload_n 0, 0, .null), (1211, 1212, .iload_n 3, 0, .null), (1212, 1213, .iconst 2, 0, .int 2), (1213, 1214, .iadd, 0, .null), (1214, 1215, .iaload, 0, .null), (1215, 1216, .aload_n 0, 0, .null), (1216, 1217, .iload_n 3, 0, .null), (1217, 1218, .iconst 3, 0, .int 3), (1218, 1219, .iadd, 0, .null), (1219, 1220, .iaload, 0, .null), (1220, 1223, .invokevirtual 122, 0, .null), (1223, 1224, .aload_n 2, 0, .null), (1224, 1225, .aload_n 0, 0, .null), (1225, 1226, .iload_n 3, 0, .null), (1226, 1227, .iconst 1, 0, .int 1), (1227, 1228, .iadd, 0, .null), (1228, 1229, .iaload, 0, .null), (1229, 1230, .aload_n 0, 0, .null), (1230, 1231, .iload_n 3, 0, .null), (1231, 1232, .iconst 2, 0, .int 2), (1232, 1233, .iadd, 0, .null), (1233, 1234, .iaload, 0, .null), (1234, 1235, .aload_n 0, 0, .null), (1235, 1236, .iload_n 3, 0, .null), (1236, 1237, .iconst 3, 0, .int 3), (1237, 1238, .iadd, 0, .null), (1238, 1239, .iaload, 0, .null), (1239, 1242, .invokevirtual 125, 0, .null), (1242, 1245, .if_icmp .eq 240, 1482, .null), (1245, 1246, .iconst 0, 0, .int 0), (1246, 1247, .ireturn, 0, .null)]
theorem sl_25_ok : ∀ row ∈ sl_25, cAt ct221 row.1 = some row := by decide +kernel
theorem ls_25 {L i : Nat} {xs : Nat → Int32} {h : Hp} (hL : L ≤ 3072) (hi : i + 6 ≤ L) (I : Inv h) : ∃ h2, Inv h2 ∧ ∀ (rr : Option Value) (h' : Hp), Rn (L, xs) lawM 1482 [some (.retAddr 5), some (.ref 1), some (.ref 39), some (.int (nI i))] [] h2 rr h' → Rn (L, xs) lawM 1204 [some (.retAddr 5), some (.ref 1), some (.ref 39), some (.int (nI i))] [] h rr h' := by
  have b1 : inB (nI i + 1) L = true := lw_in hL hi (j := 1) (by decide) rfl
  have b2 : inB (nI i + 2) L = true := lw_in hL hi (j := 2) (by decide) rfl
  have b3 : inB (nI i + 3) L = true := lw_in hL hi (j := 3) (by decide) rfl
  obtain ⟨v, h1, h2, X, M, k1, k2, I2⟩ := ((op_put (sc := (L, xs)) I.1 (xs (nI i + 1).toNatClampNeg) (xs (nI i + 2).toNatClampNeg) (xs (nI i + 3).toNatClampNeg)).v I).int rfl rfl I.1
  refine ⟨h2, I2, fun rr h' K => ?_⟩
  refine law_sub sl_25_ok [1482] 90 ?_
  refine And.intro b1 ?_
  refine And.intro b2 ?_
  refine And.intro b3 ?_
  refine And.intro ⟨rfl, k1⟩ (And.intro rfl (Exists.intro _ (Exists.intro _ (And.intro (X) ?_))))
  refine And.intro b1 ?_
  refine And.intro b2 ?_
  refine And.intro b3 ?_
  refine And.intro ⟨rfl, k2⟩ (And.intro rfl (Exists.intro _ (Exists.intro _ (And.intro (M) ?_))))
  refine br_t rfl ?_
  exact K
def sl_26 : List Rw := [(1247, 1248, .aload_n 1, 0, .null), (1248, 1249, .aload_n 0, 0, .null), (1249, 1250, .iload_n 3, 0, .null), (1250, 1251, .iconst 1, 0, .int 1), (1251, 1252, .iadd, 0, .null), (1252, 1253, .iaload, 0, .null), (1253, 1254, .aload_n 0, 0, .null), (1254, 1255, .iload_n 3, 0, .null), (1255, 1256, .iconst 2, 0, .int 2), (1256, 1257, .iadd, 0, .null), (1257, 1258, .iaload, 0, .null), (1258, 1259, .aload_n 0, 0, .null), (1259, 1260, .iload_n 3, 0, .null), (1260, 1261, .iconst 3, 0, .int 3), (1261, 1262, .iadd, 0, .null), (1262, 1263, .iaload, 0, .null), (1263, 1266, .invokevirtual 126, 0, .null), (1266, 1267, .aload_n 2, 0, .null), (1267, 1268, .aload_n 0, 0, .null), (1268, 1269, .iload_n 3, 0, .null), (1269, 1270, .iconst 1, 0, .int 1), (1270, 1271, .iadd, 0, .null), (1271, 1272, .iaload, 0, .null), (1272, 1273, .aload_n 0, 0, .null), (1273, 1274, .iload_n 3, 0, .null), (1274, 1275, .iconst 2, 0, .int 2), (1275, 1276, .iadd, 0, .null), (1276, 1277, .iaload, 0, .null), (1277, 1278, .aload_n 0, 0, .null), (1278, 1279, .iload_n 3, 0, .null), (1279, 1280, .iconst 3, 0, .int 3), (1280, 1281, .iadd, 0, .null), (1281, 1282, .iaload, 0, .null), (1282, 1285, .invokevirtual 129, 0, .null), (1285, 1286, .lcmp, 0, .null), (1286, 1289, .ifCond .eq 196, 1482, .null), (1289, 1290, .iconst 0, 0, .int 0), (1290, 1291, .ireturn, 0, .null)]
theorem sl_26_ok : ∀ row ∈ sl_26, cAt ct221 row.1 = some row := by decide +kernel
theorem ls_26 {L i : Nat} {xs : Nat → Int32} {h : Hp} (hL : L ≤ 3072) (hi : i + 6 ≤ L) (I : Inv h) : ∃ h2, Inv h2 ∧ ∀ (rr : Option Value) (h' : Hp), Rn (L, xs) lawM 1482 [some (.retAddr 5), some (.ref 1), some (.ref 39), some (.int (nI i))] [] h2 rr h' → Rn (L, xs) lawM 1247 [some (.retAddr 5), some (.ref 1), some (.ref 39), some (.int (nI i))] [] h rr h' := by
  have b1 : inB (nI i + 1) L = true := lw_in hL hi (j := 1) (by decide) rfl
  have b2 : inB (nI i + 2) L = true := lw_in hL hi (j := 2) (by decide) rfl
  have b3 : inB (nI i + 3) L = true := lw_in hL hi (j := 3) (by decide) rfl
  obtain ⟨v, h1, h2, X, M, k1, k2, I2⟩ := ((op_cell (sc := (L, xs)) I.1 (xs (nI i + 1).toNatClampNeg) (xs (nI i + 2).toNatClampNeg) (xs (nI i + 3).toNatClampNeg)).v I).long rfl rfl I.1
  refine ⟨h2, I2, fun rr h' K => ?_⟩
  refine law_sub sl_26_ok [1482] 90 ?_
  refine And.intro b1 ?_
  refine And.intro b2 ?_
  refine And.intro b3 ?_
  refine And.intro ⟨rfl, k1⟩ (And.intro rfl (Exists.intro _ (Exists.intro _ (And.intro (X) ?_))))
  refine And.intro b1 ?_
  refine And.intro b2 ?_
  refine And.intro b3 ?_
  refine And.intro ⟨rfl, k2⟩ (And.intro rfl (Exists.intro _ (Exists.intro _ (And.intro (M) ?_))))
  refine br_t ((cmp_eq0 v v).mpr rfl) ?_
  exact K
def sl_27 : List Rw := [(1291, 1292, .aload_n 1, 0, .null), (1292, 1293, .aload_n 0, 0, .null), (1293, 1294, .iload_n 3, 0, .null), (1294, 1295, .iconst 1, 0, .int 1), (1295, 1296, .iadd, 0, .null), (1296, 1297, .iaload, 0, .null), (1297, 1298, .aload_n 0, 0, .null), (1298, 1299, .iload_n 3, 0, .null), (1299, 1300, .iconst 2, 0, .int 2), (1300, 1301, .iadd, 0, .null), (1301, 1302, .iaload, 0, .null), (1302, 1303, .aload_n 0, 0, .null), (1303, 1304, .iload_n 3, 0, .null), (1304, 1305, .iconst 3, 0, .int 3), (1305, 1306, .iadd, 0, .null), (1306, 1307, .iaload, 0, .null), (1307, 1308, .aload_n 0, 0, .null), (1308, 1309, .iload_n 3, 0, .null), (1309, 1310, .iconst 4, 0, .int 4), (1310, 1311, .iadd, 0, .null), (1311, 1312, .iaload, 0, .null), (1312, 1313, .aload_n 0, 0, .null), (1313, 1314, .iload_n 3, 0, .null), (1314, 1315, .iconst 5, 0, .int 5), (1315, 1316, .iadd, 0, .null), (1316, 1317, .iaload, 0, .null), (1317, 1320, .invokevirtual 130, 0, .null), (1320, 1321, .aload_n 2, 0, .null), (1321, 1322, .aload_n 0, 0, .null), (1322, 1323, .iload_n 3, 0, .null), (1323, 1324, .iconst 1, 0, .int 1), (1324, 1325, .iadd, 0, .null), (1325, 1326, .iaload, 0, .null), (1326, 1327, .aload_n 0, 0, .null), (1327, 1328, .iload_n 3, 0, .null), (1328, 1329, .iconst 2, 0, .int 2), (1329, 1330, .iadd, 0, .null), (1330, 1331, .iaload, 0, .null), (1331, 1332, .aload_n 0, 0, .null), (1332, 1333, .iload_n 3, 0, .null), (1333, 1334, .iconst 3, 0, .int 3), (1334, 1335, .iadd, 0, .null), (1335, 1336, .iaload, 0, .null), (1336, 1337, .aload_n 0, 0, .null), (1337, 1338, .iload_n 3, 0, .null), (1338, 1339, .iconst 4, 0, .int 4), (1339, 1340, .iadd, 0, .null), (1340, 1341, .iaload, 0, .null), (1341, 1342, .aload_n 0, 0, .null), (1342, 1343, .iload_n 3, 0, .null), (1343, 1344, .iconst 5, 0, .int 5), (1344, 1345, .iadd, 0, .null), (1345, 1346, .iaload, 0, .null), (1346, 1349, .invokevirtual 133, 0, .null), (1349, 1352, .if_icmp .eq 133, 1482, .null), (1352, 1353, .iconst 0, 0, .int 0), (1353, 1354, .ireturn, 0, .null)]
theorem sl_27_ok : ∀ row ∈ sl_27, cAt ct221 row.1 = some row := by decide +kernel
theorem ls_27 {L i : Nat} {xs : Nat → Int32} {h : Hp} (hL : L ≤ 3072) (hi : i + 6 ≤ L) (I : Inv h) : ∃ h2, Inv h2 ∧ ∀ (rr : Option Value) (h' : Hp), Rn (L, xs) lawM 1482 [some (.retAddr 5), some (.ref 1), some (.ref 39), some (.int (nI i))] [] h2 rr h' → Rn (L, xs) lawM 1291 [some (.retAddr 5), some (.ref 1), some (.ref 39), some (.int (nI i))] [] h rr h' := by
  have b1 : inB (nI i + 1) L = true := lw_in hL hi (j := 1) (by decide) rfl
  have b2 : inB (nI i + 2) L = true := lw_in hL hi (j := 2) (by decide) rfl
  have b3 : inB (nI i + 3) L = true := lw_in hL hi (j := 3) (by decide) rfl
  have b4 : inB (nI i + 4) L = true := lw_in hL hi (j := 4) (by decide) rfl
  have b5 : inB (nI i + 5) L = true := lw_in hL hi (j := 5) (by decide) rfl
  obtain ⟨v, h1, h2, X, M, k1, k2, I2⟩ := ((op_copy (sc := (L, xs)) I.1 (xs (nI i + 1).toNatClampNeg) (xs (nI i + 2).toNatClampNeg) (xs (nI i + 3).toNatClampNeg) (xs (nI i + 4).toNatClampNeg) (xs (nI i + 5).toNatClampNeg)).v I).int rfl rfl I.1
  refine ⟨h2, I2, fun rr h' K => ?_⟩
  refine law_sub sl_27_ok [1482] 90 ?_
  refine And.intro b1 ?_
  refine And.intro b2 ?_
  refine And.intro b3 ?_
  refine And.intro b4 ?_
  refine And.intro b5 ?_
  refine And.intro ⟨rfl, k1⟩ (And.intro rfl (Exists.intro _ (Exists.intro _ (And.intro (X) ?_))))
  refine And.intro b1 ?_
  refine And.intro b2 ?_
  refine And.intro b3 ?_
  refine And.intro b4 ?_
  refine And.intro b5 ?_
  refine And.intro ⟨rfl, k2⟩ (And.intro rfl (Exists.intro _ (Exists.intro _ (And.intro (M) ?_))))
  refine br_t rfl ?_
  exact K
def sl_28 : List Rw := [(1354, 1355, .aload_n 1, 0, .null), (1355, 1356, .aload_n 0, 0, .null), (1356, 1357, .iload_n 3, 0, .null), (1357, 1358, .iconst 1, 0, .int 1), (1358, 1359, .iadd, 0, .null), (1359, 1360, .iaload, 0, .null), (1360, 1363, .invokevirtual 134, 0, .null), (1363, 1364, .aload_n 2, 0, .null), (1364, 1365, .aload_n 0, 0, .null), (1365, 1366, .iload_n 3, 0, .null), (1366, 1367, .iconst 1, 0, .int 1), (1367, 1368, .iadd, 0, .null), (1368, 1369, .iaload, 0, .null), (1369, 1372, .invokevirtual 137, 0, .null), (1372, 1375, .if_icmp .eq 110, 1482, .null), (1375, 1376, .iconst 0, 0, .int 0), (1376, 1377, .ireturn, 0, .null)]
theorem sl_28_ok : ∀ row ∈ sl_28, cAt ct221 row.1 = some row := by decide +kernel
theorem ls_28 {L i : Nat} {xs : Nat → Int32} {h : Hp} (hL : L ≤ 3072) (hi : i + 6 ≤ L) (I : Inv h) : ∃ h2, Inv h2 ∧ ∀ (rr : Option Value) (h' : Hp), Rn (L, xs) lawM 1482 [some (.retAddr 5), some (.ref 1), some (.ref 39), some (.int (nI i))] [] h2 rr h' → Rn (L, xs) lawM 1354 [some (.retAddr 5), some (.ref 1), some (.ref 39), some (.int (nI i))] [] h rr h' := by
  have b1 : inB (nI i + 1) L = true := lw_in hL hi (j := 1) (by decide) rfl
  obtain ⟨v, h1, h2, X, M, k1, k2, I2⟩ := ((op_tell (sc := (L, xs)) I.1 (xs (nI i + 1).toNatClampNeg)).v I).int rfl rfl I.1
  refine ⟨h2, I2, fun rr h' K => ?_⟩
  refine law_sub sl_28_ok [1482] 90 ?_
  refine And.intro b1 ?_
  refine And.intro ⟨rfl, k1⟩ (And.intro rfl (Exists.intro _ (Exists.intro _ (And.intro (X) ?_))))
  refine And.intro b1 ?_
  refine And.intro ⟨rfl, k2⟩ (And.intro rfl (Exists.intro _ (Exists.intro _ (And.intro (M) ?_))))
  refine br_t rfl ?_
  exact K
def sl_29 : List Rw := [(1377, 1378, .aload_n 1, 0, .null), (1378, 1379, .aload_n 0, 0, .null), (1379, 1380, .iload_n 3, 0, .null), (1380, 1381, .iconst 1, 0, .int 1), (1381, 1382, .iadd, 0, .null), (1382, 1383, .iaload, 0, .null), (1383, 1386, .invokevirtual 138, 0, .null), (1386, 1387, .aload_n 2, 0, .null), (1387, 1388, .aload_n 0, 0, .null), (1388, 1389, .iload_n 3, 0, .null), (1389, 1390, .iconst 1, 0, .int 1), (1390, 1391, .iadd, 0, .null), (1391, 1392, .iaload, 0, .null), (1392, 1395, .invokevirtual 141, 0, .null), (1395, 1398, .if_icmp .eq 87, 1482, .null), (1398, 1399, .iconst 0, 0, .int 0), (1399, 1400, .ireturn, 0, .null)]
theorem sl_29_ok : ∀ row ∈ sl_29, cAt ct221 row.1 = some row := by decide +kernel
theorem ls_29 {L i : Nat} {xs : Nat → Int32} {h : Hp} (hL : L ≤ 3072) (hi : i + 6 ≤ L) (I : Inv h) : ∃ h2, Inv h2 ∧ ∀ (rr : Option Value) (h' : Hp), Rn (L, xs) lawM 1482 [some (.retAddr 5), some (.ref 1), some (.ref 39), some (.int (nI i))] [] h2 rr h' → Rn (L, xs) lawM 1377 [some (.retAddr 5), some (.ref 1), some (.ref 39), some (.int (nI i))] [] h rr h' := by
  have b1 : inB (nI i + 1) L = true := lw_in hL hi (j := 1) (by decide) rfl
  obtain ⟨v, h1, h2, X, M, k1, k2, I2⟩ := ((op_list (sc := (L, xs)) I.1 (xs (nI i + 1).toNatClampNeg)).v I).int rfl rfl I.1
  refine ⟨h2, I2, fun rr h' K => ?_⟩
  refine law_sub sl_29_ok [1482] 90 ?_
  refine And.intro b1 ?_
  refine And.intro ⟨rfl, k1⟩ (And.intro rfl (Exists.intro _ (Exists.intro _ (And.intro (X) ?_))))
  refine And.intro b1 ?_
  refine And.intro ⟨rfl, k2⟩ (And.intro rfl (Exists.intro _ (Exists.intro _ (And.intro (M) ?_))))
  refine br_t rfl ?_
  exact K
def sl_30 : List Rw := [(1400, 1401, .aload_n 1, 0, .null), (1401, 1402, .aload_n 0, 0, .null), (1402, 1403, .iload_n 3, 0, .null), (1403, 1404, .iconst 1, 0, .int 1), (1404, 1405, .iadd, 0, .null), (1405, 1406, .iaload, 0, .null), (1406, 1407, .aload_n 0, 0, .null), (1407, 1408, .iload_n 3, 0, .null), (1408, 1409, .iconst 2, 0, .int 2), (1409, 1410, .iadd, 0, .null), (1410, 1411, .iaload, 0, .null), (1411, 1414, .invokevirtual 142, 0, .null), (1414, 1415, .aload_n 2, 0, .null), (1415, 1416, .aload_n 0, 0, .null), (1416, 1417, .iload_n 3, 0, .null), (1417, 1418, .iconst 1, 0, .int 1), (1418, 1419, .iadd, 0, .null), (1419, 1420, .iaload, 0, .null), (1420, 1421, .aload_n 0, 0, .null), (1421, 1422, .iload_n 3, 0, .null), (1422, 1423, .iconst 2, 0, .int 2), (1423, 1424, .iadd, 0, .null), (1424, 1425, .iaload, 0, .null), (1425, 1428, .invokevirtual 145, 0, .null), (1428, 1431, .if_icmp .eq 54, 1482, .null), (1431, 1432, .iconst 0, 0, .int 0), (1432, 1433, .ireturn, 0, .null)]
theorem sl_30_ok : ∀ row ∈ sl_30, cAt ct221 row.1 = some row := by decide +kernel
theorem ls_30 {L i : Nat} {xs : Nat → Int32} {h : Hp} (hL : L ≤ 3072) (hi : i + 6 ≤ L) (I : Inv h) : ∃ h2, Inv h2 ∧ ∀ (rr : Option Value) (h' : Hp), Rn (L, xs) lawM 1482 [some (.retAddr 5), some (.ref 1), some (.ref 39), some (.int (nI i))] [] h2 rr h' → Rn (L, xs) lawM 1400 [some (.retAddr 5), some (.ref 1), some (.ref 39), some (.int (nI i))] [] h rr h' := by
  have b1 : inB (nI i + 1) L = true := lw_in hL hi (j := 1) (by decide) rfl
  have b2 : inB (nI i + 2) L = true := lw_in hL hi (j := 2) (by decide) rfl
  obtain ⟨v, h1, h2, X, M, k1, k2, I2⟩ := ((op_as (sc := (L, xs)) I.1 (xs (nI i + 1).toNatClampNeg) (xs (nI i + 2).toNatClampNeg)).v I).int rfl rfl I.1
  refine ⟨h2, I2, fun rr h' K => ?_⟩
  refine law_sub sl_30_ok [1482] 90 ?_
  refine And.intro b1 ?_
  refine And.intro b2 ?_
  refine And.intro ⟨rfl, k1⟩ (And.intro rfl (Exists.intro _ (Exists.intro _ (And.intro (X) ?_))))
  refine And.intro b1 ?_
  refine And.intro b2 ?_
  refine And.intro ⟨rfl, k2⟩ (And.intro rfl (Exists.intro _ (Exists.intro _ (And.intro (M) ?_))))
  refine br_t rfl ?_
  exact K
def sl_31 : List Rw := [(1433, 1434, .aload_n 1, 0, .null), (1434, 1437, .invokevirtual 146, 0, .null), (1437, 1438, .aload_n 2, 0, .null), (1438, 1441, .invokevirtual 149, 0, .null), (1441, 1444, .if_icmp .eq 41, 1482, .null), (1444, 1445, .iconst 0, 0, .int 0), (1445, 1446, .ireturn, 0, .null)]
theorem sl_31_ok : ∀ row ∈ sl_31, cAt ct221 row.1 = some row := by decide +kernel
theorem ls_31 {L i : Nat} {xs : Nat → Int32} {h : Hp} (hL : L ≤ 3072) (hi : i + 6 ≤ L) (I : Inv h) : ∃ h2, Inv h2 ∧ ∀ (rr : Option Value) (h' : Hp), Rn (L, xs) lawM 1482 [some (.retAddr 5), some (.ref 1), some (.ref 39), some (.int (nI i))] [] h2 rr h' → Rn (L, xs) lawM 1433 [some (.retAddr 5), some (.ref 1), some (.ref 39), some (.int (nI i))] [] h rr h' := by
  obtain ⟨v, h1, h2, X, M, k1, k2, I2⟩ := ((op_trace (sc := (L, xs)) I.1).v I).int rfl rfl I.1
  refine ⟨h2, I2, fun rr h' K => ?_⟩
  refine law_sub sl_31_ok [1482] 90 ?_
  refine And.intro ⟨rfl, k1⟩ (And.intro rfl (Exists.intro _ (Exists.intro _ (And.intro (X) ?_))))
  refine And.intro ⟨rfl, k2⟩ (And.intro rfl (Exists.intro _ (Exists.intro _ (And.intro (M) ?_))))
  refine br_t rfl ?_
  exact K
def sl_32 : List Rw := [(1446, 1447, .aload_n 1, 0, .null), (1447, 1450, .invokevirtual 150, 0, .null), (1450, 1451, .aload_n 2, 0, .null), (1451, 1454, .invokevirtual 153, 0, .null), (1454, 1457, .if_icmp .eq 28, 1482, .null), (1457, 1458, .iconst 0, 0, .int 0), (1458, 1459, .ireturn, 0, .null)]
theorem sl_32_ok : ∀ row ∈ sl_32, cAt ct221 row.1 = some row := by decide +kernel
theorem ls_32 {L i : Nat} {xs : Nat → Int32} {h : Hp} (hL : L ≤ 3072) (hi : i + 6 ≤ L) (I : Inv h) : ∃ h2, Inv h2 ∧ ∀ (rr : Option Value) (h' : Hp), Rn (L, xs) lawM 1482 [some (.retAddr 5), some (.ref 1), some (.ref 39), some (.int (nI i))] [] h2 rr h' → Rn (L, xs) lawM 1446 [some (.retAddr 5), some (.ref 1), some (.ref 39), some (.int (nI i))] [] h rr h' := by
  obtain ⟨v, h1, h2, X, M, k1, k2, I2⟩ := ((op_fault (sc := (L, xs)) I.1).v I).int rfl rfl I.1
  refine ⟨h2, I2, fun rr h' K => ?_⟩
  refine law_sub sl_32_ok [1482] 90 ?_
  refine And.intro ⟨rfl, k1⟩ (And.intro rfl (Exists.intro _ (Exists.intro _ (And.intro (X) ?_))))
  refine And.intro ⟨rfl, k2⟩ (And.intro rfl (Exists.intro _ (Exists.intro _ (And.intro (M) ?_))))
  refine br_t rfl ?_
  exact K
def sl_33 : List Rw := [(1459, 1460, .aload_n 1, 0, .null), (1460, 1461, .aload_n 0, 0, .null), (1461, 1462, .iload_n 3, 0, .null), (1462, 1463, .iconst 1, 0, .int 1), (1463, 1464, .iadd, 0, .null), (1464, 1465, .iaload, 0, .null), (1465, 1468, .invokevirtual 154, 0, .null), (1468, 1469, .aload_n 2, 0, .null), (1469, 1470, .aload_n 0, 0, .null), (1470, 1471, .iload_n 3, 0, .null), (1471, 1472, .iconst 1, 0, .int 1), (1472, 1473, .iadd, 0, .null), (1473, 1474, .iaload, 0, .null), (1474, 1477, .invokevirtual 157, 0, .null), (1477, 1480, .if_icmp .eq 5, 1482, .null), (1480, 1481, .iconst 0, 0, .int 0), (1481, 1482, .ireturn, 0, .null)]
theorem sl_33_ok : ∀ row ∈ sl_33, cAt ct221 row.1 = some row := by decide +kernel
theorem ls_33 {L i : Nat} {xs : Nat → Int32} {h : Hp} (hL : L ≤ 3072) (hi : i + 6 ≤ L) (I : Inv h) : ∃ h2, Inv h2 ∧ ∀ (rr : Option Value) (h' : Hp), Rn (L, xs) lawM 1482 [some (.retAddr 5), some (.ref 1), some (.ref 39), some (.int (nI i))] [] h2 rr h' → Rn (L, xs) lawM 1459 [some (.retAddr 5), some (.ref 1), some (.ref 39), some (.int (nI i))] [] h rr h' := by
  have b1 : inB (nI i + 1) L = true := lw_in hL hi (j := 1) (by decide) rfl
  obtain ⟨v, h1, h2, X, M, k1, k2, I2⟩ := ((op_many (sc := (L, xs)) I.1 (xs (nI i + 1).toNatClampNeg)).v I).int rfl rfl I.1
  refine ⟨h2, I2, fun rr h' K => ?_⟩
  refine law_sub sl_33_ok [1482] 90 ?_
  refine And.intro b1 ?_
  refine And.intro ⟨rfl, k1⟩ (And.intro rfl (Exists.intro _ (Exists.intro _ (And.intro (X) ?_))))
  refine And.intro b1 ?_
  refine And.intro ⟨rfl, k2⟩ (And.intro rfl (Exists.intro _ (Exists.intro _ (And.intro (M) ?_))))
  refine br_t rfl ?_
  exact K
