/-! ===== the listing holds, put together ===== -/
theorem md_k0 : mm_chkM 0 md_L0 = true := by
  have h : md_L0 = ((md_L0.drop 0).take 10) ++ (((md_L0.drop 10).take 10) ++ (((md_L0.drop 20).take 10) ++ (((md_L0.drop 30).take 10) ++ (((md_L0.drop 40).take 10) ++ (((md_L0.drop 50).take 10) ++ (((md_L0.drop 60).take 10) ++ (((md_L0.drop 70).take 10) ++ (((md_L0.drop 80).take 10) ++ (((md_L0.drop 90).take 10)))))))))) := by rfl
  rw [h]
  simp only [mm_chkM, List.all_append, Bool.and_eq_true]
  exact ⟨md_k0_0, md_k0_1, md_k0_2, md_k0_3, md_k0_4, md_k0_5, md_k0_6, md_k0_7, md_k0_8, md_k0_9⟩
theorem md_ka0 : mm_chkAll 0 md_LC0 := ⟨md_k0, md_k1, md_k2, md_k3, md_k4, md_k5, md_k6, md_k7, md_k8, md_k9, md_k10, md_k11, md_k12, md_k13, md_k14, md_k15, trivial⟩
theorem md_ka1 : mm_chkAll 16 md_LC1 := ⟨md_k16, md_k17, md_k18, md_k19, md_k20, md_k21, md_k22, md_k23, md_k24, md_k25, md_k26, md_k27, md_k28, md_k29, md_k30, md_k31, trivial⟩
theorem md_ka2 : mm_chkAll 32 md_LC2 := ⟨md_k32, md_k33, md_k34, md_k35, md_k36, md_k37, md_k38, md_k39, md_k40, md_k41, md_k42, md_k43, md_k44, md_k45, md_k46, md_k47, trivial⟩
theorem md_ka3 : mm_chkAll 48 md_LC3 := ⟨md_k48, md_k49, md_k50, md_k51, md_k52, md_k53, md_k54, md_k55, md_k56, md_k57, md_k58, md_k59, md_k60, md_k61, md_k62, md_k63, trivial⟩
theorem md_ka4 : mm_chkAll 64 md_LC4 := ⟨md_k64, md_k65, md_k66, md_k67, md_k68, md_k69, md_k70, md_k71, md_k72, md_k73, md_k74, md_k75, md_k76, md_k77, md_k78, md_k79, trivial⟩
theorem md_ka5 : mm_chkAll 80 md_LC5 := ⟨md_k80, md_k81, md_k82, md_k83, md_k84, md_k85, md_k86, md_k87, md_k88, md_k89, md_k90, md_k91, md_k92, md_k93, md_k94, md_k95, trivial⟩
theorem md_ka6 : mm_chkAll 96 md_LC6 := ⟨md_k96, md_k97, md_k98, md_k99, md_k100, md_k101, md_k102, md_k103, md_k104, md_k105, md_k106, md_k107, md_k108, md_k109, md_k110, md_k111, trivial⟩
theorem md_ka7 : mm_chkAll 112 md_LC7 := ⟨md_k112, md_k113, md_k114, md_k115, md_k116, md_k117, md_k118, md_k119, md_k120, md_k121, md_k122, md_k123, md_k124, md_k125, md_k126, md_k127, trivial⟩
theorem md_ka8 : mm_chkAll 128 md_LC8 := ⟨md_k128, md_k129, md_k130, md_k131, md_k132, md_k133, md_k134, md_k135, md_k136, md_k137, md_k138, md_k139, md_k140, md_k141, md_k142, md_k143, trivial⟩
theorem md_ka9 : mm_chkAll 144 md_LC9 := ⟨md_k144, md_k145, md_k146, md_k147, md_k148, md_k149, md_k150, md_k151, md_k152, md_k153, md_k154, md_k155, md_k156, md_k157, md_k158, md_k159, trivial⟩
theorem md_ka10 : mm_chkAll 160 md_LC10 := ⟨md_k160, md_k161, md_k162, md_k163, md_k164, md_k165, md_k166, md_k167, md_k168, md_k169, md_k170, md_k171, md_k172, md_k173, md_k174, md_k175, trivial⟩
theorem md_ka11 : mm_chkAll 176 md_LC11 := ⟨md_k176, md_k177, md_k178, md_k179, md_k180, md_k181, md_k182, md_k183, md_k184, md_k185, md_k186, md_k187, md_k188, md_k189, md_k190, md_k191, trivial⟩
theorem md_ka12 : mm_chkAll 192 md_LC12 := ⟨md_k192, md_k193, md_k194, md_k195, md_k196, md_k197, md_k198, md_k199, md_k200, md_k201, md_k202, md_k203, md_k204, md_k205, md_k206, md_k207, trivial⟩
theorem md_ka13 : mm_chkAll 208 md_LC13 := ⟨md_k208, md_k209, md_k210, md_k211, md_k212, md_k213, md_k214, md_k215, md_k216, md_k217, md_k218, md_k219, md_k220, md_k221, md_k222, md_k223, trivial⟩
theorem md_ka14 : mm_chkAll 224 md_LC14 := ⟨md_k224, md_k225, md_k226, md_k227, md_k228, md_k229, md_k230, md_k231, md_k232, md_k233, md_k234, md_k235, md_k236, md_k237, md_k238, md_k239, trivial⟩
theorem md_ka15 : mm_chkAll 240 md_LC15 := ⟨md_k240, md_k241, md_k242, md_k243, md_k244, md_k245, md_k246, md_k247, md_k248, md_k249, md_k250, md_k251, md_k252, md_k253, md_k254, md_k255, trivial⟩
theorem md_ka16 : mm_chkAll 256 md_LC16 := ⟨md_k256, md_k257, md_k258, md_k259, md_k260, md_k261, md_k262, md_k263, md_k264, md_k265, md_k266, md_k267, md_k268, md_k269, md_k270, md_k271, trivial⟩
theorem md_ka17 : mm_chkAll 272 md_LC17 := ⟨md_k272, md_k273, md_k274, md_k275, md_k276, md_k277, md_k278, md_k279, md_k280, md_k281, md_k282, md_k283, md_k284, md_k285, md_k286, md_k287, trivial⟩
theorem md_ka18 : mm_chkAll 288 md_LC18 := ⟨md_k288, md_k289, md_k290, md_k291, md_k292, md_k293, md_k294, md_k295, md_k296, md_k297, md_k298, md_k299, md_k300, md_k301, md_k302, md_k303, trivial⟩
theorem md_ka19 : mm_chkAll 304 md_LC19 := ⟨md_k304, md_k305, md_k306, md_k307, md_k308, md_k309, md_k310, md_k311, md_k312, md_k313, md_k314, md_k315, md_k316, md_k317, md_k318, md_k319, trivial⟩
theorem md_ka20 : mm_chkAll 320 md_LC20 := ⟨md_k320, md_k321, md_k322, md_k323, md_k324, md_k325, md_k326, md_k327, md_k328, md_k329, md_k330, md_k331, md_k332, md_k333, md_k334, md_k335, trivial⟩
theorem md_ka21 : mm_chkAll 336 md_LC21 := ⟨md_k336, md_k337, md_k338, md_k339, md_k340, md_k341, md_k342, md_k343, md_k344, md_k345, md_k346, md_k347, md_k348, md_k349, md_k350, md_k351, trivial⟩
theorem md_ka22 : mm_chkAll 352 md_LC22 := ⟨md_k352, md_k353, md_k354, md_k355, md_k356, md_k357, md_k358, md_k359, md_k360, md_k361, md_k362, md_k363, md_k364, md_k365, md_k366, trivial⟩
theorem md_kb : ∀ (a : Nat) (c : List (List (List mm_Ln))), md_LL[a]? = some c → mm_chkAll (16 * a) c := by
  intro a c h
  match a, h with
  | 0, h => cases h; exact md_ka0
  | 1, h => cases h; exact md_ka1
  | 2, h => cases h; exact md_ka2
  | 3, h => cases h; exact md_ka3
  | 4, h => cases h; exact md_ka4
  | 5, h => cases h; exact md_ka5
  | 6, h => cases h; exact md_ka6
  | 7, h => cases h; exact md_ka7
  | 8, h => cases h; exact md_ka8
  | 9, h => cases h; exact md_ka9
  | 10, h => cases h; exact md_ka10
  | 11, h => cases h; exact md_ka11
  | 12, h => cases h; exact md_ka12
  | 13, h => cases h; exact md_ka13
  | 14, h => cases h; exact md_ka14
  | 15, h => cases h; exact md_ka15
  | 16, h => cases h; exact md_ka16
  | 17, h => cases h; exact md_ka17
  | 18, h => cases h; exact md_ka18
  | 19, h => cases h; exact md_ka19
  | 20, h => cases h; exact md_ka20
  | 21, h => cases h; exact md_ka21
  | 22, h => cases h; exact md_ka22
  | n + 23, h => simp [md_LL] at h
theorem md_c1 : mm_cal 1 7 := ⟨mm_wmem 5 54 rfl rfl, by decide +kernel, by decide +kernel, by decide +kernel, by decide +kernel⟩
theorem md_c2 : mm_cal 2 3 := ⟨mm_wmem 5 133 rfl rfl, by decide +kernel, by decide +kernel, by decide +kernel, by decide +kernel⟩
theorem md_c3 : mm_cal 3 2 := ⟨mm_wmem 5 157 rfl rfl, by decide +kernel, by decide +kernel, by decide +kernel, by decide +kernel⟩
theorem md_c4 : mm_cal 4 2 := ⟨mm_wmem 6 49 rfl rfl, by decide +kernel, by decide +kernel, by decide +kernel, by decide +kernel⟩
theorem md_c5 : mm_cal 5 3 := ⟨mm_wmem 6 116 rfl rfl, by decide +kernel, by decide +kernel, by decide +kernel, by decide +kernel⟩
theorem md_c6 : mm_cal 6 3 := ⟨mm_wmem 6 124 rfl rfl, by decide +kernel, by decide +kernel, by decide +kernel, by decide +kernel⟩
theorem md_c7 : mm_cal 7 3 := ⟨mm_wmem 6 148 rfl rfl, by decide +kernel, by decide +kernel, by decide +kernel, by decide +kernel⟩
theorem md_c8 : mm_cal 8 3 := ⟨mm_wmem 6 160 rfl rfl, by decide +kernel, by decide +kernel, by decide +kernel, by decide +kernel⟩
theorem md_c9 : mm_cal 9 3 := ⟨mm_wmem 6 172 rfl rfl, by decide +kernel, by decide +kernel, by decide +kernel, by decide +kernel⟩
theorem md_c10 : mm_cal 10 3 := ⟨mm_wmem 6 179 rfl rfl, by decide +kernel, by decide +kernel, by decide +kernel, by decide +kernel⟩
theorem md_c11 : mm_cal 11 3 := ⟨mm_wmem 6 186 rfl rfl, by decide +kernel, by decide +kernel, by decide +kernel, by decide +kernel⟩
theorem md_c12 : mm_cal 12 3 := ⟨mm_wmem 6 197 rfl rfl, by decide +kernel, by decide +kernel, by decide +kernel, by decide +kernel⟩
theorem md_c13 : mm_cal 13 4 := ⟨mm_wmem 6 204 rfl rfl, by decide +kernel, by decide +kernel, by decide +kernel, by decide +kernel⟩
theorem md_c14 : mm_cal 14 3 := ⟨mm_wmem 6 211 rfl rfl, by decide +kernel, by decide +kernel, by decide +kernel, by decide +kernel⟩
theorem md_c15 : mm_cal 15 3 := ⟨mm_wmem 6 220 rfl rfl, by decide +kernel, by decide +kernel, by decide +kernel, by decide +kernel⟩
theorem md_c16 : mm_cal 16 3 := ⟨mm_wmem 6 228 rfl rfl, by decide +kernel, by decide +kernel, by decide +kernel, by decide +kernel⟩
theorem md_c17 : mm_cal 17 3 := ⟨mm_wmem 6 236 rfl rfl, by decide +kernel, by decide +kernel, by decide +kernel, by decide +kernel⟩
theorem md_c18 : mm_cal 18 3 := ⟨mm_wmem 7 4 rfl rfl, by decide +kernel, by decide +kernel, by decide +kernel, by decide +kernel⟩
theorem md_c19 : mm_cal 19 3 := ⟨mm_wmem 7 12 rfl rfl, by decide +kernel, by decide +kernel, by decide +kernel, by decide +kernel⟩
theorem md_c20 : mm_cal 20 3 := ⟨mm_wmem 7 27 rfl rfl, by decide +kernel, by decide +kernel, by decide +kernel, by decide +kernel⟩
theorem md_c21 : mm_cal 21 3 := ⟨mm_wmem 7 34 rfl rfl, by decide +kernel, by decide +kernel, by decide +kernel, by decide +kernel⟩
theorem md_c22 : mm_cal 22 3 := ⟨mm_wmem 7 41 rfl rfl, by decide +kernel, by decide +kernel, by decide +kernel, by decide +kernel⟩
theorem md_c23 : mm_cal 23 4 := ⟨mm_wmem 7 49 rfl rfl, by decide +kernel, by decide +kernel, by decide +kernel, by decide +kernel⟩
theorem md_c24 : mm_cal 24 3 := ⟨mm_wmem 7 58 rfl rfl, by decide +kernel, by decide +kernel, by decide +kernel, by decide +kernel⟩
theorem md_c25 : mm_cal 25 2 := ⟨mm_wmem 7 66 rfl rfl, by decide +kernel, by decide +kernel, by decide +kernel, by decide +kernel⟩
theorem md_c26 : mm_cal 26 0 := ⟨mm_wmem 1 34 rfl rfl, by decide +kernel, by decide +kernel, by decide +kernel, by decide +kernel⟩
theorem md_c27 : mm_cal 27 0 := ⟨mm_wmem 3 53 rfl rfl, by decide +kernel, by decide +kernel, by decide +kernel, by decide +kernel⟩
theorem md_c28 : mm_cal 28 0 := ⟨mm_wmem 3 57 rfl rfl, by decide +kernel, by decide +kernel, by decide +kernel, by decide +kernel⟩
theorem md_c29 : mm_cal 29 0 := ⟨mm_wmem 3 61 rfl rfl, by decide +kernel, by decide +kernel, by decide +kernel, by decide +kernel⟩
theorem md_c30 : mm_cal 30 0 := ⟨mm_wmem 3 69 rfl rfl, by decide +kernel, by decide +kernel, by decide +kernel, by decide +kernel⟩
theorem md_c31 : mm_cal 31 0 := ⟨mm_wmem 3 76 rfl rfl, by decide +kernel, by decide +kernel, by decide +kernel, by decide +kernel⟩
theorem md_c32 : mm_cal 32 1 := ⟨mm_wmem 3 84 rfl rfl, by decide +kernel, by decide +kernel, by decide +kernel, by decide +kernel⟩
theorem md_c33 : mm_cal 33 0 := ⟨mm_wmem 3 92 rfl rfl, by decide +kernel, by decide +kernel, by decide +kernel, by decide +kernel⟩
theorem md_c34 : mm_cal 34 0 := ⟨mm_wmem 3 102 rfl rfl, by decide +kernel, by decide +kernel, by decide +kernel, by decide +kernel⟩
theorem md_c35 : mm_cal 35 1 := ⟨mm_wmem 3 106 rfl rfl, by decide +kernel, by decide +kernel, by decide +kernel, by decide +kernel⟩
theorem md_c36 : mm_cal 36 0 := ⟨mm_wmem 3 110 rfl rfl, by decide +kernel, by decide +kernel, by decide +kernel, by decide +kernel⟩
theorem md_c37 : mm_cal 37 0 := ⟨mm_wmem 3 114 rfl rfl, by decide +kernel, by decide +kernel, by decide +kernel, by decide +kernel⟩
theorem md_c38 : mm_cal 38 0 := ⟨mm_wmem 3 126 rfl rfl, by decide +kernel, by decide +kernel, by decide +kernel, by decide +kernel⟩
theorem md_c39 : mm_cal 39 0 := ⟨mm_wmem 3 130 rfl rfl, by decide +kernel, by decide +kernel, by decide +kernel, by decide +kernel⟩
theorem md_c40 : mm_cal 40 0 := ⟨mm_wmem 3 134 rfl rfl, by decide +kernel, by decide +kernel, by decide +kernel, by decide +kernel⟩
theorem md_c41 : mm_cal 41 0 := ⟨mm_wmem 3 138 rfl rfl, by decide +kernel, by decide +kernel, by decide +kernel, by decide +kernel⟩
theorem md_c42 : mm_cal 42 0 := ⟨mm_wmem 3 142 rfl rfl, by decide +kernel, by decide +kernel, by decide +kernel, by decide +kernel⟩
theorem md_c43 : mm_cal 43 0 := ⟨mm_wmem 3 146 rfl rfl, by decide +kernel, by decide +kernel, by decide +kernel, by decide +kernel⟩
theorem md_c44 : mm_cal 44 0 := ⟨mm_wmem 3 150 rfl rfl, by decide +kernel, by decide +kernel, by decide +kernel, by decide +kernel⟩
theorem md_c45 : mm_cal 45 1 := ⟨mm_wmem 3 174 rfl rfl, by decide +kernel, by decide +kernel, by decide +kernel, by decide +kernel⟩
theorem md_c46 : mm_cal 46 0 := ⟨mm_wmem 3 185 rfl rfl, by decide +kernel, by decide +kernel, by decide +kernel, by decide +kernel⟩
theorem md_c47 : mm_cal 47 0 := ⟨mm_wmem 4 17 rfl rfl, by decide +kernel, by decide +kernel, by decide +kernel, by decide +kernel⟩
theorem md_c48 : mm_cal 48 0 := ⟨mm_wmem 4 71 rfl rfl, by decide +kernel, by decide +kernel, by decide +kernel, by decide +kernel⟩
theorem md_c49 : mm_cal 49 0 := ⟨mm_wmem 4 138 rfl rfl, by decide +kernel, by decide +kernel, by decide +kernel, by decide +kernel⟩
theorem md_c50 : mm_cal 50 0 := ⟨mm_wmem 4 142 rfl rfl, by decide +kernel, by decide +kernel, by decide +kernel, by decide +kernel⟩
theorem md_c51 : mm_cal 51 1 := ⟨mm_wmem 4 146 rfl rfl, by decide +kernel, by decide +kernel, by decide +kernel, by decide +kernel⟩
theorem md_c52 : mm_cal 52 0 := ⟨mm_wmem 4 150 rfl rfl, by decide +kernel, by decide +kernel, by decide +kernel, by decide +kernel⟩
theorem md_c53 : mm_cal 53 0 := ⟨mm_wmem 4 162 rfl rfl, by decide +kernel, by decide +kernel, by decide +kernel, by decide +kernel⟩
theorem md_c54 : mm_cal 54 0 := ⟨mm_wmem 4 174 rfl rfl, by decide +kernel, by decide +kernel, by decide +kernel, by decide +kernel⟩
theorem md_c55 : mm_cal 55 0 := ⟨mm_wmem 4 182 rfl rfl, by decide +kernel, by decide +kernel, by decide +kernel, by decide +kernel⟩
theorem md_c56 : mm_cal 56 1 := ⟨mm_wmem 4 186 rfl rfl, by decide +kernel, by decide +kernel, by decide +kernel, by decide +kernel⟩
theorem md_c57 : mm_cal 57 0 := ⟨mm_wmem 4 190 rfl rfl, by decide +kernel, by decide +kernel, by decide +kernel, by decide +kernel⟩
theorem md_c58 : mm_cal 58 0 := ⟨mm_wmem 4 195 rfl rfl, by decide +kernel, by decide +kernel, by decide +kernel, by decide +kernel⟩
theorem md_c59 : mm_cal 59 0 := ⟨mm_wmem 5 37 rfl rfl, by decide +kernel, by decide +kernel, by decide +kernel, by decide +kernel⟩
theorem md_c60 : mm_cal 60 0 := ⟨mm_wmem 5 45 rfl rfl, by decide +kernel, by decide +kernel, by decide +kernel, by decide +kernel⟩
theorem md_c61 : mm_cal 61 5 := ⟨mm_wmem 5 59 rfl rfl, by decide +kernel, by decide +kernel, by decide +kernel, by decide +kernel⟩
theorem md_c62 : mm_cal 62 1 := ⟨mm_wmem 5 138 rfl rfl, by decide +kernel, by decide +kernel, by decide +kernel, by decide +kernel⟩
theorem md_c63 : mm_cal 63 0 := ⟨mm_wmem 5 161 rfl rfl, by decide +kernel, by decide +kernel, by decide +kernel, by decide +kernel⟩
theorem md_c64 : mm_cal 64 0 := ⟨mm_wmem 6 53 rfl rfl, by decide +kernel, by decide +kernel, by decide +kernel, by decide +kernel⟩
theorem md_c65 : mm_cal 65 1 := ⟨mm_wmem 6 120 rfl rfl, by decide +kernel, by decide +kernel, by decide +kernel, by decide +kernel⟩
theorem md_c66 : mm_cal 66 1 := ⟨mm_wmem 6 129 rfl rfl, by decide +kernel, by decide +kernel, by decide +kernel, by decide +kernel⟩
theorem md_c67 : mm_cal 67 1 := ⟨mm_wmem 6 152 rfl rfl, by decide +kernel, by decide +kernel, by decide +kernel, by decide +kernel⟩
theorem md_c68 : mm_cal 68 1 := ⟨mm_wmem 6 156 rfl rfl, by decide +kernel, by decide +kernel, by decide +kernel, by decide +kernel⟩
theorem md_c69 : mm_cal 69 1 := ⟨mm_wmem 6 164 rfl rfl, by decide +kernel, by decide +kernel, by decide +kernel, by decide +kernel⟩
theorem md_c70 : mm_cal 70 1 := ⟨mm_wmem 6 168 rfl rfl, by decide +kernel, by decide +kernel, by decide +kernel, by decide +kernel⟩
theorem md_c71 : mm_cal 71 1 := ⟨mm_wmem 6 176 rfl rfl, by decide +kernel, by decide +kernel, by decide +kernel, by decide +kernel⟩
theorem md_c72 : mm_cal 72 1 := ⟨mm_wmem 6 183 rfl rfl, by decide +kernel, by decide +kernel, by decide +kernel, by decide +kernel⟩
theorem md_c73 : mm_cal 73 1 := ⟨mm_wmem 6 190 rfl rfl, by decide +kernel, by decide +kernel, by decide +kernel, by decide +kernel⟩
theorem md_c74 : mm_cal 74 1 := ⟨mm_wmem 6 201 rfl rfl, by decide +kernel, by decide +kernel, by decide +kernel, by decide +kernel⟩
theorem md_c75 : mm_cal 75 2 := ⟨mm_wmem 6 208 rfl rfl, by decide +kernel, by decide +kernel, by decide +kernel, by decide +kernel⟩
theorem md_c76 : mm_cal 76 1 := ⟨mm_wmem 6 215 rfl rfl, by decide +kernel, by decide +kernel, by decide +kernel, by decide +kernel⟩
theorem md_c77 : mm_cal 77 1 := ⟨mm_wmem 6 224 rfl rfl, by decide +kernel, by decide +kernel, by decide +kernel, by decide +kernel⟩
theorem md_c78 : mm_cal 78 1 := ⟨mm_wmem 6 232 rfl rfl, by decide +kernel, by decide +kernel, by decide +kernel, by decide +kernel⟩
theorem md_c79 : mm_cal 79 1 := ⟨mm_wmem 7 0 rfl rfl, by decide +kernel, by decide +kernel, by decide +kernel, by decide +kernel⟩
theorem md_c80 : mm_cal 80 1 := ⟨mm_wmem 7 8 rfl rfl, by decide +kernel, by decide +kernel, by decide +kernel, by decide +kernel⟩
theorem md_c81 : mm_cal 81 1 := ⟨mm_wmem 7 16 rfl rfl, by decide +kernel, by decide +kernel, by decide +kernel, by decide +kernel⟩
theorem md_c82 : mm_cal 82 1 := ⟨mm_wmem 7 19 rfl rfl, by decide +kernel, by decide +kernel, by decide +kernel, by decide +kernel⟩
theorem md_c83 : mm_cal 83 2 := ⟨mm_wmem 7 24 rfl rfl, by decide +kernel, by decide +kernel, by decide +kernel, by decide +kernel⟩
theorem md_c84 : mm_cal 84 1 := ⟨mm_wmem 7 31 rfl rfl, by decide +kernel, by decide +kernel, by decide +kernel, by decide +kernel⟩
theorem md_c85 : mm_cal 85 1 := ⟨mm_wmem 7 38 rfl rfl, by decide +kernel, by decide +kernel, by decide +kernel, by decide +kernel⟩
theorem md_c86 : mm_cal 86 1 := ⟨mm_wmem 7 45 rfl rfl, by decide +kernel, by decide +kernel, by decide +kernel, by decide +kernel⟩
theorem md_c87 : mm_cal 87 2 := ⟨mm_wmem 7 53 rfl rfl, by decide +kernel, by decide +kernel, by decide +kernel, by decide +kernel⟩
theorem md_c88 : mm_cal 88 1 := ⟨mm_wmem 7 62 rfl rfl, by decide +kernel, by decide +kernel, by decide +kernel, by decide +kernel⟩
theorem md_c89 : mm_cal 89 0 := ⟨mm_wmem 7 70 rfl rfl, by decide +kernel, by decide +kernel, by decide +kernel, by decide +kernel⟩
theorem md_c90 : mm_cal 90 1 := ⟨mm_wmem 5 187 rfl rfl, by decide +kernel, by decide +kernel, by decide +kernel, by decide +kernel⟩
theorem md_c91 : mm_cal 91 0 := ⟨mm_wmem 1 42 rfl rfl, by decide +kernel, by decide +kernel, by decide +kernel, by decide +kernel⟩
theorem md_c92 : mm_cal 92 1 := ⟨mm_wmem 5 130 rfl rfl, by decide +kernel, by decide +kernel, by decide +kernel, by decide +kernel⟩
theorem md_c93 : mm_cal 93 0 := ⟨mm_wmem 5 170 rfl rfl, by decide +kernel, by decide +kernel, by decide +kernel, by decide +kernel⟩
theorem md_c94 : mm_cal 94 0 := ⟨mm_wmem 5 174 rfl rfl, by decide +kernel, by decide +kernel, by decide +kernel, by decide +kernel⟩
theorem md_c95 : mm_cal 95 1 := ⟨mm_wmem 5 177 rfl rfl, by decide +kernel, by decide +kernel, by decide +kernel, by decide +kernel⟩
theorem md_c96 : mm_cal 96 1 := ⟨mm_wmem 5 180 rfl rfl, by decide +kernel, by decide +kernel, by decide +kernel, by decide +kernel⟩
theorem md_c97 : mm_cal 97 0 := ⟨mm_wmem 5 184 rfl rfl, by decide +kernel, by decide +kernel, by decide +kernel, by decide +kernel⟩
theorem md_c98 : mm_cal 98 1 := ⟨mm_wmem 5 193 rfl rfl, by decide +kernel, by decide +kernel, by decide +kernel, by decide +kernel⟩
theorem md_c99 : mm_cal 99 0 := ⟨mm_wmem 5 197 rfl rfl, by decide +kernel, by decide +kernel, by decide +kernel, by decide +kernel⟩
theorem md_c100 : mm_cal 100 1 := ⟨mm_wmem 5 200 rfl rfl, by decide +kernel, by decide +kernel, by decide +kernel, by decide +kernel⟩
theorem md_c101 : mm_cal 101 1 := ⟨mm_wmem 5 208 rfl rfl, by decide +kernel, by decide +kernel, by decide +kernel, by decide +kernel⟩
theorem md_c102 : mm_cal 102 1 := ⟨mm_wmem 5 225 rfl rfl, by decide +kernel, by decide +kernel, by decide +kernel, by decide +kernel⟩
theorem md_c103 : mm_cal 103 2 := ⟨mm_wmem 5 237 rfl rfl, by decide +kernel, by decide +kernel, by decide +kernel, by decide +kernel⟩
theorem md_c104 : mm_cal 104 1 := ⟨mm_wmem 6 13 rfl rfl, by decide +kernel, by decide +kernel, by decide +kernel, by decide +kernel⟩
theorem md_c105 : mm_cal 105 0 := ⟨mm_wmem 6 37 rfl rfl, by decide +kernel, by decide +kernel, by decide +kernel, by decide +kernel⟩
theorem md_c106 : mm_cal 106 0 := ⟨mm_wmem 6 80 rfl rfl, by decide +kernel, by decide +kernel, by decide +kernel, by decide +kernel⟩
theorem md_c107 : mm_cal 107 0 := ⟨mm_wmem 1 92 rfl rfl, by decide +kernel, by decide +kernel, by decide +kernel, by decide +kernel⟩
theorem md_c108 : mm_cal 108 0 := ⟨mm_wmem 1 97 rfl rfl, by decide +kernel, by decide +kernel, by decide +kernel, by decide +kernel⟩
theorem md_c109 : mm_cal 109 3 := ⟨mm_wmem 4 1 rfl rfl, by decide +kernel, by decide +kernel, by decide +kernel, by decide +kernel⟩
theorem md_c110 : mm_cal 110 2 := ⟨mm_wmem 4 5 rfl rfl, by decide +kernel, by decide +kernel, by decide +kernel, by decide +kernel⟩
theorem md_c111 : mm_cal 111 2 := ⟨mm_wmem 4 8 rfl rfl, by decide +kernel, by decide +kernel, by decide +kernel, by decide +kernel⟩
theorem md_c112 : mm_cal 112 1 := ⟨mm_wmem 4 93 rfl rfl, by decide +kernel, by decide +kernel, by decide +kernel, by decide +kernel⟩
theorem md_c113 : mm_cal 113 1 := ⟨mm_wmem 5 26 rfl rfl, by decide +kernel, by decide +kernel, by decide +kernel, by decide +kernel⟩
theorem md_c114 : mm_cal 114 1 := ⟨mm_wmem 5 49 rfl rfl, by decide +kernel, by decide +kernel, by decide +kernel, by decide +kernel⟩
theorem md_c115 : mm_cal 115 1 := ⟨mm_wmem 5 231 rfl rfl, by decide +kernel, by decide +kernel, by decide +kernel, by decide +kernel⟩
theorem md_c116 : mm_cal 116 1 := ⟨mm_wmem 1 198 rfl rfl, by decide +kernel, by decide +kernel, by decide +kernel, by decide +kernel⟩
theorem md_c117 : mm_cal 117 0 := ⟨mm_wmem 5 165 rfl rfl, by decide +kernel, by decide +kernel, by decide +kernel, by decide +kernel⟩
theorem md_c118 : mm_cal 118 0 := ⟨mm_wmem 5 204 rfl rfl, by decide +kernel, by decide +kernel, by decide +kernel, by decide +kernel⟩
theorem md_c119 : mm_cal 119 0 := ⟨mm_wmem 5 220 rfl rfl, by decide +kernel, by decide +kernel, by decide +kernel, by decide +kernel⟩
theorem md_c120 : mm_cal 120 0 := ⟨mm_wmem 6 1 rfl rfl, by decide +kernel, by decide +kernel, by decide +kernel, by decide +kernel⟩
theorem md_c121 : mm_cal 121 0 := ⟨mm_wmem 6 5 rfl rfl, by decide +kernel, by decide +kernel, by decide +kernel, by decide +kernel⟩
theorem md_c122 : mm_cal 122 0 := ⟨mm_wmem 6 17 rfl rfl, by decide +kernel, by decide +kernel, by decide +kernel, by decide +kernel⟩
theorem md_c123 : mm_cal 123 0 := ⟨mm_wmem 6 21 rfl rfl, by decide +kernel, by decide +kernel, by decide +kernel, by decide +kernel⟩
theorem md_c124 : mm_cal 124 0 := ⟨mm_wmem 6 27 rfl rfl, by decide +kernel, by decide +kernel, by decide +kernel, by decide +kernel⟩
theorem md_c125 : mm_cal 125 0 := ⟨mm_wmem 6 33 rfl rfl, by decide +kernel, by decide +kernel, by decide +kernel, by decide +kernel⟩
theorem md_c126 : mm_cal 126 1 := ⟨mm_wmem 1 226 rfl rfl, by decide +kernel, by decide +kernel, by decide +kernel, by decide +kernel⟩
theorem md_c127 : mm_cal 127 2 := ⟨mm_wmem 3 65 rfl rfl, by decide +kernel, by decide +kernel, by decide +kernel, by decide +kernel⟩
theorem md_c128 : mm_cal 128 0 := ⟨mm_wmem 3 80 rfl rfl, by decide +kernel, by decide +kernel, by decide +kernel, by decide +kernel⟩
theorem md_c129 : mm_cal 129 0 := ⟨mm_wmem 3 96 rfl rfl, by decide +kernel, by decide +kernel, by decide +kernel, by decide +kernel⟩
theorem md_c130 : mm_cal 130 0 := ⟨mm_wmem 3 118 rfl rfl, by decide +kernel, by decide +kernel, by decide +kernel, by decide +kernel⟩
theorem md_c131 : mm_cal 131 1 := ⟨mm_wmem 3 122 rfl rfl, by decide +kernel, by decide +kernel, by decide +kernel, by decide +kernel⟩
theorem md_c132 : mm_cal 132 1 := ⟨mm_wmem 3 158 rfl rfl, by decide +kernel, by decide +kernel, by decide +kernel, by decide +kernel⟩
theorem md_c133 : mm_cal 133 0 := ⟨mm_wmem 3 170 rfl rfl, by decide +kernel, by decide +kernel, by decide +kernel, by decide +kernel⟩
theorem md_c134 : mm_cal 134 0 := ⟨mm_wmem 3 189 rfl rfl, by decide +kernel, by decide +kernel, by decide +kernel, by decide +kernel⟩
theorem md_c135 : mm_cal 135 0 := ⟨mm_wmem 3 193 rfl rfl, by decide +kernel, by decide +kernel, by decide +kernel, by decide +kernel⟩
theorem md_c136 : mm_cal 136 1 := ⟨mm_wmem 3 197 rfl rfl, by decide +kernel, by decide +kernel, by decide +kernel, by decide +kernel⟩
theorem md_c137 : mm_cal 137 1 := ⟨mm_wmem 3 201 rfl rfl, by decide +kernel, by decide +kernel, by decide +kernel, by decide +kernel⟩
theorem md_c138 : mm_cal 138 1 := ⟨mm_wmem 3 209 rfl rfl, by decide +kernel, by decide +kernel, by decide +kernel, by decide +kernel⟩
theorem md_c139 : mm_cal 139 1 := ⟨mm_wmem 3 221 rfl rfl, by decide +kernel, by decide +kernel, by decide +kernel, by decide +kernel⟩
theorem md_c140 : mm_cal 140 0 := ⟨mm_wmem 3 225 rfl rfl, by decide +kernel, by decide +kernel, by decide +kernel, by decide +kernel⟩
theorem md_c141 : mm_cal 141 1 := ⟨mm_wmem 3 229 rfl rfl, by decide +kernel, by decide +kernel, by decide +kernel, by decide +kernel⟩
theorem md_c142 : mm_cal 142 1 := ⟨mm_wmem 3 233 rfl rfl, by decide +kernel, by decide +kernel, by decide +kernel, by decide +kernel⟩
theorem md_c143 : mm_cal 143 2 := ⟨mm_wmem 3 237 rfl rfl, by decide +kernel, by decide +kernel, by decide +kernel, by decide +kernel⟩
theorem md_c144 : mm_cal 144 3 := ⟨mm_wmem 4 12 rfl rfl, by decide +kernel, by decide +kernel, by decide +kernel, by decide +kernel⟩
theorem md_c145 : mm_cal 145 0 := ⟨mm_wmem 4 25 rfl rfl, by decide +kernel, by decide +kernel, by decide +kernel, by decide +kernel⟩
theorem md_c146 : mm_cal 146 2 := ⟨mm_wmem 4 134 rfl rfl, by decide +kernel, by decide +kernel, by decide +kernel, by decide +kernel⟩
theorem md_c147 : mm_cal 147 0 := ⟨mm_wmem 4 154 rfl rfl, by decide +kernel, by decide +kernel, by decide +kernel, by decide +kernel⟩
theorem md_c148 : mm_cal 148 1 := ⟨mm_wmem 4 158 rfl rfl, by decide +kernel, by decide +kernel, by decide +kernel, by decide +kernel⟩
theorem md_c149 : mm_cal 149 0 := ⟨mm_wmem 4 166 rfl rfl, by decide +kernel, by decide +kernel, by decide +kernel, by decide +kernel⟩
theorem md_c150 : mm_cal 150 0 := ⟨mm_wmem 4 178 rfl rfl, by decide +kernel, by decide +kernel, by decide +kernel, by decide +kernel⟩
theorem md_c151 : mm_cal 151 0 := ⟨mm_wmem 6 42 rfl rfl, by decide +kernel, by decide +kernel, by decide +kernel, by decide +kernel⟩
theorem md_c152 : mm_cal 152 1 := ⟨mm_wmem 6 194 rfl rfl, by decide +kernel, by decide +kernel, by decide +kernel, by decide +kernel⟩
theorem md_c153 : mm_cal 153 0 := ⟨mm_wmem 1 233 rfl rfl, by decide +kernel, by decide +kernel, by decide +kernel, by decide +kernel⟩
theorem md_c154 : mm_cal 154 1 := ⟨mm_wmem 3 88 rfl rfl, by decide +kernel, by decide +kernel, by decide +kernel, by decide +kernel⟩
theorem md_c155 : mm_cal 155 1 := ⟨mm_wmem 3 165 rfl rfl, by decide +kernel, by decide +kernel, by decide +kernel, by decide +kernel⟩
theorem md_c156 : mm_cal 156 0 := ⟨mm_wmem 3 205 rfl rfl, by decide +kernel, by decide +kernel, by decide +kernel, by decide +kernel⟩
theorem md_c157 : mm_cal 157 0 := ⟨mm_wmem 3 213 rfl rfl, by decide +kernel, by decide +kernel, by decide +kernel, by decide +kernel⟩
theorem md_c158 : mm_cal 158 1 := ⟨mm_wmem 3 217 rfl rfl, by decide +kernel, by decide +kernel, by decide +kernel, by decide +kernel⟩
theorem md_c159 : mm_cal 159 1 := ⟨mm_wmem 4 170 rfl rfl, by decide +kernel, by decide +kernel, by decide +kernel, by decide +kernel⟩
theorem md_c160 : mm_cal 160 2 := ⟨mm_wmem 2 87 rfl rfl, by decide +kernel, by decide +kernel, by decide +kernel, by decide +kernel⟩
theorem md_c161 : mm_cal 161 0 := ⟨mm_wmem 4 21 rfl rfl, by decide +kernel, by decide +kernel, by decide +kernel, by decide +kernel⟩
theorem md_c162 : mm_cal 162 0 := ⟨mm_wmem 4 29 rfl rfl, by decide +kernel, by decide +kernel, by decide +kernel, by decide +kernel⟩
theorem md_c163 : mm_cal 163 1 := ⟨mm_wmem 4 33 rfl rfl, by decide +kernel, by decide +kernel, by decide +kernel, by decide +kernel⟩
theorem md_c164 : mm_cal 164 4 := ⟨mm_wmem 4 38 rfl rfl, by decide +kernel, by decide +kernel, by decide +kernel, by decide +kernel⟩
theorem md_c165 : mm_cal 165 3 := ⟨mm_wmem 4 42 rfl rfl, by decide +kernel, by decide +kernel, by decide +kernel, by decide +kernel⟩
theorem md_c166 : mm_cal 166 5 := ⟨mm_wmem 4 48 rfl rfl, by decide +kernel, by decide +kernel, by decide +kernel, by decide +kernel⟩
theorem md_c167 : mm_cal 167 2 := ⟨mm_wmem 4 53 rfl rfl, by decide +kernel, by decide +kernel, by decide +kernel, by decide +kernel⟩
theorem md_c168 : mm_cal 168 0 := ⟨mm_wmem 4 60 rfl rfl, by decide +kernel, by decide +kernel, by decide +kernel, by decide +kernel⟩
theorem md_c169 : mm_cal 169 0 := ⟨mm_wmem 4 65 rfl rfl, by decide +kernel, by decide +kernel, by decide +kernel, by decide +kernel⟩
theorem md_c170 : mm_cal 170 2 := ⟨mm_wmem 2 141 rfl rfl, by decide +kernel, by decide +kernel, by decide +kernel, by decide +kernel⟩
theorem md_c171 : mm_cal 171 0 := ⟨mm_wmem 4 75 rfl rfl, by decide +kernel, by decide +kernel, by decide +kernel, by decide +kernel⟩
theorem md_c172 : mm_cal 172 0 := ⟨mm_wmem 4 81 rfl rfl, by decide +kernel, by decide +kernel, by decide +kernel, by decide +kernel⟩
theorem md_c173 : mm_cal 173 2 := ⟨mm_wmem 4 88 rfl rfl, by decide +kernel, by decide +kernel, by decide +kernel, by decide +kernel⟩
theorem md_c174 : mm_cal 174 2 := ⟨mm_wmem 4 97 rfl rfl, by decide +kernel, by decide +kernel, by decide +kernel, by decide +kernel⟩
theorem md_c175 : mm_cal 175 3 := ⟨mm_wmem 4 101 rfl rfl, by decide +kernel, by decide +kernel, by decide +kernel, by decide +kernel⟩
theorem md_c176 : mm_cal 176 2 := ⟨mm_wmem 4 113 rfl rfl, by decide +kernel, by decide +kernel, by decide +kernel, by decide +kernel⟩
theorem md_c177 : mm_cal 177 1 := ⟨mm_wmem 4 116 rfl rfl, by decide +kernel, by decide +kernel, by decide +kernel, by decide +kernel⟩
theorem md_c178 : mm_cal 178 0 := ⟨mm_wmem 4 120 rfl rfl, by decide +kernel, by decide +kernel, by decide +kernel, by decide +kernel⟩
theorem md_c179 : mm_cal 179 3 := ⟨mm_wmem 4 124 rfl rfl, by decide +kernel, by decide +kernel, by decide +kernel, by decide +kernel⟩
theorem md_c180 : mm_cal 180 0 := ⟨mm_wmem 4 129 rfl rfl, by decide +kernel, by decide +kernel, by decide +kernel, by decide +kernel⟩
theorem md_c181 : mm_cal 181 4 := ⟨mm_wmem 2 176 rfl rfl, by decide +kernel, by decide +kernel, by decide +kernel, by decide +kernel⟩
theorem md_c182 : mm_cal 182 0 := ⟨mm_wmem 6 57 rfl rfl, by decide +kernel, by decide +kernel, by decide +kernel, by decide +kernel⟩
theorem md_c183 : mm_cal 183 0 := ⟨mm_wmem 6 64 rfl rfl, by decide +kernel, by decide +kernel, by decide +kernel, by decide +kernel⟩
theorem md_c184 : mm_cal 184 2 := ⟨mm_wmem 6 68 rfl rfl, by decide +kernel, by decide +kernel, by decide +kernel, by decide +kernel⟩
theorem md_c185 : mm_cal 185 0 := ⟨mm_wmem 6 73 rfl rfl, by decide +kernel, by decide +kernel, by decide +kernel, by decide +kernel⟩
theorem md_c186 : mm_cal 186 0 := ⟨mm_wmem 6 85 rfl rfl, by decide +kernel, by decide +kernel, by decide +kernel, by decide +kernel⟩
theorem md_c187 : mm_cal 187 1 := ⟨mm_wmem 6 90 rfl rfl, by decide +kernel, by decide +kernel, by decide +kernel, by decide +kernel⟩
theorem md_c188 : mm_cal 188 2 := ⟨mm_wmem 6 94 rfl rfl, by decide +kernel, by decide +kernel, by decide +kernel, by decide +kernel⟩
theorem md_c189 : mm_cal 189 1 := ⟨mm_wmem 6 103 rfl rfl, by decide +kernel, by decide +kernel, by decide +kernel, by decide +kernel⟩
theorem md_c190 : mm_cal 190 1 := ⟨mm_wmem 6 108 rfl rfl, by decide +kernel, by decide +kernel, by decide +kernel, by decide +kernel⟩
theorem md_c191 : mm_cal 191 1 := ⟨mm_wmem 2 219 rfl rfl, by decide +kernel, by decide +kernel, by decide +kernel, by decide +kernel⟩
theorem md_c192 : mm_cal 192 1 := ⟨mm_wmem 3 154 rfl rfl, by decide +kernel, by decide +kernel, by decide +kernel, by decide +kernel⟩
theorem md_c193 : mm_cal 193 0 := ⟨mm_wmem 3 178 rfl rfl, by decide +kernel, by decide +kernel, by decide +kernel, by decide +kernel⟩
theorem md_c194 : mm_cal 194 1 := ⟨mm_wmem 5 41 rfl rfl, by decide +kernel, by decide +kernel, by decide +kernel, by decide +kernel⟩
theorem md_c195 : mm_cal 195 0 := ⟨mm_wmem 6 46 rfl rfl, by decide +kernel, by decide +kernel, by decide +kernel, by decide +kernel⟩
theorem md_c196 : mm_cal 196 0 := ⟨mm_wmem 2 239 rfl rfl, by decide +kernel, by decide +kernel, by decide +kernel, by decide +kernel⟩
theorem md_c197 : mm_cal 197 2 := ⟨mm_wmem 4 199 rfl rfl, by decide +kernel, by decide +kernel, by decide +kernel, by decide +kernel⟩
theorem md_c198 : mm_cal 198 1 := ⟨mm_wmem 4 204 rfl rfl, by decide +kernel, by decide +kernel, by decide +kernel, by decide +kernel⟩
theorem md_c199 : mm_cal 199 1 := ⟨mm_wmem 5 16 rfl rfl, by decide +kernel, by decide +kernel, by decide +kernel, by decide +kernel⟩
theorem md_c200 : mm_cal 200 3 := ⟨mm_wmem 5 20 rfl rfl, by decide +kernel, by decide +kernel, by decide +kernel, by decide +kernel⟩
theorem md_c201 : mm_cal 201 1 := ⟨mm_wmem 5 30 rfl rfl, by decide +kernel, by decide +kernel, by decide +kernel, by decide +kernel⟩
theorem md_c202 : mm_cal 202 0 := ⟨mm_wmem 7 76 rfl rfl, by decide +kernel, by decide +kernel, by decide +kernel, by decide +kernel⟩
theorem md_c203 : mm_cal 203 1 := ⟨mm_wmem 7 81 rfl rfl, by decide +kernel, by decide +kernel, by decide +kernel, by decide +kernel⟩
theorem md_c204 : mm_cal 204 0 := ⟨mm_wmem 7 234 rfl rfl, by decide +kernel, by decide +kernel, by decide +kernel, by decide +kernel⟩
theorem md_c205 : mm_cal 205 5 := ⟨mm_wmem 7 238 rfl rfl, by decide +kernel, by decide +kernel, by decide +kernel, by decide +kernel⟩
theorem md_c206 : mm_cal 206 1 := ⟨mm_wmem 8 2 rfl rfl, by decide +kernel, by decide +kernel, by decide +kernel, by decide +kernel⟩
theorem md_c207 : mm_cal 207 1 := ⟨mm_wmem 8 5 rfl rfl, by decide +kernel, by decide +kernel, by decide +kernel, by decide +kernel⟩
theorem md_c208 : mm_cal 208 1 := ⟨mm_wmem 8 9 rfl rfl, by decide +kernel, by decide +kernel, by decide +kernel, by decide +kernel⟩
theorem md_c209 : mm_cal 209 1 := ⟨mm_wmem 8 13 rfl rfl, by decide +kernel, by decide +kernel, by decide +kernel, by decide +kernel⟩
theorem md_c210 : mm_cal 210 3 := ⟨mm_wmem 8 16 rfl rfl, by decide +kernel, by decide +kernel, by decide +kernel, by decide +kernel⟩
theorem md_c211 : mm_cal 211 0 := ⟨mm_wmem 8 20 rfl rfl, by decide +kernel, by decide +kernel, by decide +kernel, by decide +kernel⟩
theorem md_c212 : mm_cal 212 0 := ⟨mm_wmem 8 24 rfl rfl, by decide +kernel, by decide +kernel, by decide +kernel, by decide +kernel⟩
theorem md_c213 : mm_cal 213 0 := ⟨mm_wmem 8 28 rfl rfl, by decide +kernel, by decide +kernel, by decide +kernel, by decide +kernel⟩
theorem md_c214 : mm_cal 214 0 := ⟨mm_wmem 8 32 rfl rfl, by decide +kernel, by decide +kernel, by decide +kernel, by decide +kernel⟩
theorem md_c215 : mm_cal 215 0 := ⟨mm_wmem 8 36 rfl rfl, by decide +kernel, by decide +kernel, by decide +kernel, by decide +kernel⟩
theorem md_c216 : mm_cal 216 1 := ⟨mm_wmem 8 40 rfl rfl, by decide +kernel, by decide +kernel, by decide +kernel, by decide +kernel⟩
theorem md_c217 : mm_cal 217 1 := ⟨mm_wmem 8 43 rfl rfl, by decide +kernel, by decide +kernel, by decide +kernel, by decide +kernel⟩
theorem md_c218 : mm_cal 218 1 := ⟨mm_wmem 8 46 rfl rfl, by decide +kernel, by decide +kernel, by decide +kernel, by decide +kernel⟩
theorem md_c219 : mm_cal 219 0 := ⟨mm_wmem 8 50 rfl rfl, by decide +kernel, by decide +kernel, by decide +kernel, by decide +kernel⟩
theorem md_c220 : mm_cal 220 0 := ⟨mm_wmem 8 54 rfl rfl, by decide +kernel, by decide +kernel, by decide +kernel, by decide +kernel⟩
theorem md_c221 : mm_cal 221 1 := ⟨mm_wmem 8 59 rfl rfl, by decide +kernel, by decide +kernel, by decide +kernel, by decide +kernel⟩
theorem md_c222 : mm_cal 222 0 := ⟨mm_wmem 8 63 rfl rfl, by decide +kernel, by decide +kernel, by decide +kernel, by decide +kernel⟩
theorem md_c223 : mm_cal 223 2 := ⟨mm_wmem 8 67 rfl rfl, by decide +kernel, by decide +kernel, by decide +kernel, by decide +kernel⟩
theorem md_c224 : mm_cal 224 1 := ⟨mm_wmem 8 71 rfl rfl, by decide +kernel, by decide +kernel, by decide +kernel, by decide +kernel⟩
theorem md_c225 : mm_cal 225 0 := ⟨mm_wmem 8 75 rfl rfl, by decide +kernel, by decide +kernel, by decide +kernel, by decide +kernel⟩
theorem md_c226 : mm_cal 226 0 := ⟨mm_wmem 8 79 rfl rfl, by decide +kernel, by decide +kernel, by decide +kernel, by decide +kernel⟩
theorem md_c227 : mm_cal 227 0 := ⟨mm_wmem 8 102 rfl rfl, by decide +kernel, by decide +kernel, by decide +kernel, by decide +kernel⟩
theorem md_c228 : mm_cal 228 3 := ⟨mm_wmem 8 106 rfl rfl, by decide +kernel, by decide +kernel, by decide +kernel, by decide +kernel⟩
theorem md_c229 : mm_cal 229 1 := ⟨mm_wmem 8 110 rfl rfl, by decide +kernel, by decide +kernel, by decide +kernel, by decide +kernel⟩
theorem md_c230 : mm_cal 230 1 := ⟨mm_wmem 8 114 rfl rfl, by decide +kernel, by decide +kernel, by decide +kernel, by decide +kernel⟩
theorem md_c231 : mm_cal 231 2 := ⟨mm_wmem 8 118 rfl rfl, by decide +kernel, by decide +kernel, by decide +kernel, by decide +kernel⟩
theorem md_c232 : mm_cal 232 0 := ⟨mm_wmem 8 122 rfl rfl, by decide +kernel, by decide +kernel, by decide +kernel, by decide +kernel⟩
theorem md_c233 : mm_cal 233 0 := ⟨mm_wmem 8 126 rfl rfl, by decide +kernel, by decide +kernel, by decide +kernel, by decide +kernel⟩
theorem md_c234 : mm_cal 234 1 := ⟨mm_wmem 8 130 rfl rfl, by decide +kernel, by decide +kernel, by decide +kernel, by decide +kernel⟩
theorem md_c235 : mm_cal 235 1 := ⟨mm_wmem 8 134 rfl rfl, by decide +kernel, by decide +kernel, by decide +kernel, by decide +kernel⟩
theorem md_c236 : mm_cal 236 1 := ⟨mm_wmem 8 138 rfl rfl, by decide +kernel, by decide +kernel, by decide +kernel, by decide +kernel⟩
theorem md_c237 : mm_cal 237 0 := ⟨mm_wmem 8 142 rfl rfl, by decide +kernel, by decide +kernel, by decide +kernel, by decide +kernel⟩
theorem md_c238 : mm_cal 238 2 := ⟨mm_wmem 8 145 rfl rfl, by decide +kernel, by decide +kernel, by decide +kernel, by decide +kernel⟩
theorem md_c239 : mm_cal 239 1 := ⟨mm_wmem 8 149 rfl rfl, by decide +kernel, by decide +kernel, by decide +kernel, by decide +kernel⟩
theorem md_c240 : mm_cal 240 1 := ⟨mm_wmem 8 154 rfl rfl, by decide +kernel, by decide +kernel, by decide +kernel, by decide +kernel⟩
theorem md_c241 : mm_cal 241 1 := ⟨mm_wmem 8 158 rfl rfl, by decide +kernel, by decide +kernel, by decide +kernel, by decide +kernel⟩
theorem md_c242 : mm_cal 242 1 := ⟨mm_wmem 8 162 rfl rfl, by decide +kernel, by decide +kernel, by decide +kernel, by decide +kernel⟩
theorem md_c243 : mm_cal 243 1 := ⟨mm_wmem 8 166 rfl rfl, by decide +kernel, by decide +kernel, by decide +kernel, by decide +kernel⟩
theorem md_c244 : mm_cal 244 1 := ⟨mm_wmem 8 170 rfl rfl, by decide +kernel, by decide +kernel, by decide +kernel, by decide +kernel⟩
theorem md_c245 : mm_cal 245 1 := ⟨mm_wmem 8 174 rfl rfl, by decide +kernel, by decide +kernel, by decide +kernel, by decide +kernel⟩
theorem md_c246 : mm_cal 246 1 := ⟨mm_wmem 8 178 rfl rfl, by decide +kernel, by decide +kernel, by decide +kernel, by decide +kernel⟩
theorem md_c247 : mm_cal 247 0 := ⟨mm_wmem 8 182 rfl rfl, by decide +kernel, by decide +kernel, by decide +kernel, by decide +kernel⟩
theorem md_c248 : mm_cal 248 0 := ⟨mm_wmem 8 186 rfl rfl, by decide +kernel, by decide +kernel, by decide +kernel, by decide +kernel⟩
theorem md_c249 : mm_cal 249 1 := ⟨mm_wmem 8 190 rfl rfl, by decide +kernel, by decide +kernel, by decide +kernel, by decide +kernel⟩
theorem md_c250 : mm_cal 250 2 := ⟨mm_wmem 8 193 rfl rfl, by decide +kernel, by decide +kernel, by decide +kernel, by decide +kernel⟩
theorem md_c251 : mm_cal 251 1 := ⟨mm_wmem 8 197 rfl rfl, by decide +kernel, by decide +kernel, by decide +kernel, by decide +kernel⟩
theorem md_c252 : mm_cal 252 1 := ⟨mm_wmem 8 201 rfl rfl, by decide +kernel, by decide +kernel, by decide +kernel, by decide +kernel⟩
theorem md_c253 : mm_cal 253 1 := ⟨mm_wmem 8 205 rfl rfl, by decide +kernel, by decide +kernel, by decide +kernel, by decide +kernel⟩
theorem md_c254 : mm_cal 254 3 := ⟨mm_wmem 8 209 rfl rfl, by decide +kernel, by decide +kernel, by decide +kernel, by decide +kernel⟩
theorem md_c255 : mm_cal 255 0 := ⟨mm_wmem 8 213 rfl rfl, by decide +kernel, by decide +kernel, by decide +kernel, by decide +kernel⟩
theorem md_c256 : mm_cal 256 1 := ⟨mm_wmem 8 217 rfl rfl, by decide +kernel, by decide +kernel, by decide +kernel, by decide +kernel⟩
theorem md_c257 : mm_cal 257 2 := ⟨mm_wmem 8 221 rfl rfl, by decide +kernel, by decide +kernel, by decide +kernel, by decide +kernel⟩
theorem md_c258 : mm_cal 258 2 := ⟨mm_wmem 8 225 rfl rfl, by decide +kernel, by decide +kernel, by decide +kernel, by decide +kernel⟩
theorem md_c259 : mm_cal 259 1 := ⟨mm_wmem 8 229 rfl rfl, by decide +kernel, by decide +kernel, by decide +kernel, by decide +kernel⟩
theorem md_c260 : mm_cal 260 0 := ⟨mm_wmem 8 233 rfl rfl, by decide +kernel, by decide +kernel, by decide +kernel, by decide +kernel⟩
theorem md_c261 : mm_cal 261 0 := ⟨mm_wmem 8 237 rfl rfl, by decide +kernel, by decide +kernel, by decide +kernel, by decide +kernel⟩
theorem md_c262 : mm_cal 262 1 := ⟨mm_wmem 9 1 rfl rfl, by decide +kernel, by decide +kernel, by decide +kernel, by decide +kernel⟩
theorem md_c263 : mm_cal 263 1 := ⟨mm_wmem 9 5 rfl rfl, by decide +kernel, by decide +kernel, by decide +kernel, by decide +kernel⟩
theorem md_c264 : mm_cal 264 0 := ⟨mm_wmem 9 9 rfl rfl, by decide +kernel, by decide +kernel, by decide +kernel, by decide +kernel⟩
theorem md_c265 : mm_cal 265 0 := ⟨mm_wmem 9 13 rfl rfl, by decide +kernel, by decide +kernel, by decide +kernel, by decide +kernel⟩
theorem md_c266 : mm_cal 266 1 := ⟨mm_wmem 9 17 rfl rfl, by decide +kernel, by decide +kernel, by decide +kernel, by decide +kernel⟩
theorem md_c267 : mm_cal 267 1 := ⟨mm_wmem 9 21 rfl rfl, by decide +kernel, by decide +kernel, by decide +kernel, by decide +kernel⟩
theorem md_c268 : mm_cal 268 0 := ⟨mm_wmem 9 25 rfl rfl, by decide +kernel, by decide +kernel, by decide +kernel, by decide +kernel⟩
theorem md_c269 : mm_cal 269 1 := ⟨mm_wmem 9 29 rfl rfl, by decide +kernel, by decide +kernel, by decide +kernel, by decide +kernel⟩
theorem md_c270 : mm_cal 270 0 := ⟨mm_wmem 9 33 rfl rfl, by decide +kernel, by decide +kernel, by decide +kernel, by decide +kernel⟩
theorem md_c271 : mm_cal 271 0 := ⟨mm_wmem 9 37 rfl rfl, by decide +kernel, by decide +kernel, by decide +kernel, by decide +kernel⟩
theorem md_c272 : mm_cal 272 0 := ⟨mm_wmem 9 41 rfl rfl, by decide +kernel, by decide +kernel, by decide +kernel, by decide +kernel⟩
theorem md_c273 : mm_cal 273 0 := ⟨mm_wmem 9 45 rfl rfl, by decide +kernel, by decide +kernel, by decide +kernel, by decide +kernel⟩
theorem md_c274 : mm_cal 274 0 := ⟨mm_wmem 9 49 rfl rfl, by decide +kernel, by decide +kernel, by decide +kernel, by decide +kernel⟩
theorem md_c275 : mm_cal 275 1 := ⟨mm_wmem 9 53 rfl rfl, by decide +kernel, by decide +kernel, by decide +kernel, by decide +kernel⟩
theorem md_c276 : mm_cal 276 1 := ⟨mm_wmem 9 57 rfl rfl, by decide +kernel, by decide +kernel, by decide +kernel, by decide +kernel⟩
theorem md_c277 : mm_cal 277 1 := ⟨mm_wmem 9 61 rfl rfl, by decide +kernel, by decide +kernel, by decide +kernel, by decide +kernel⟩
theorem md_c278 : mm_cal 278 0 := ⟨mm_wmem 9 65 rfl rfl, by decide +kernel, by decide +kernel, by decide +kernel, by decide +kernel⟩
theorem md_c279 : mm_cal 279 1 := ⟨mm_wmem 9 69 rfl rfl, by decide +kernel, by decide +kernel, by decide +kernel, by decide +kernel⟩
theorem md_c280 : mm_cal 280 2 := ⟨mm_wmem 9 73 rfl rfl, by decide +kernel, by decide +kernel, by decide +kernel, by decide +kernel⟩
theorem md_c281 : mm_cal 281 1 := ⟨mm_wmem 9 77 rfl rfl, by decide +kernel, by decide +kernel, by decide +kernel, by decide +kernel⟩
theorem md_c282 : mm_cal 282 1 := ⟨mm_wmem 9 81 rfl rfl, by decide +kernel, by decide +kernel, by decide +kernel, by decide +kernel⟩
theorem md_c283 : mm_cal 283 1 := ⟨mm_wmem 9 85 rfl rfl, by decide +kernel, by decide +kernel, by decide +kernel, by decide +kernel⟩
theorem md_c284 : mm_cal 284 1 := ⟨mm_wmem 9 89 rfl rfl, by decide +kernel, by decide +kernel, by decide +kernel, by decide +kernel⟩
theorem md_c285 : mm_cal 285 0 := ⟨mm_wmem 9 93 rfl rfl, by decide +kernel, by decide +kernel, by decide +kernel, by decide +kernel⟩
theorem md_c286 : mm_cal 286 1 := ⟨mm_wmem 9 97 rfl rfl, by decide +kernel, by decide +kernel, by decide +kernel, by decide +kernel⟩
theorem md_c287 : mm_cal 287 0 := ⟨mm_wmem 9 101 rfl rfl, by decide +kernel, by decide +kernel, by decide +kernel, by decide +kernel⟩
theorem md_c288 : mm_cal 288 0 := ⟨mm_wmem 9 105 rfl rfl, by decide +kernel, by decide +kernel, by decide +kernel, by decide +kernel⟩
theorem md_c289 : mm_cal 289 0 := ⟨mm_wmem 9 109 rfl rfl, by decide +kernel, by decide +kernel, by decide +kernel, by decide +kernel⟩
theorem md_c290 : mm_cal 290 1 := ⟨mm_wmem 9 113 rfl rfl, by decide +kernel, by decide +kernel, by decide +kernel, by decide +kernel⟩
theorem md_c291 : mm_cal 291 0 := ⟨mm_wmem 9 117 rfl rfl, by decide +kernel, by decide +kernel, by decide +kernel, by decide +kernel⟩
theorem md_c292 : mm_cal 292 0 := ⟨mm_wmem 9 121 rfl rfl, by decide +kernel, by decide +kernel, by decide +kernel, by decide +kernel⟩
theorem md_c293 : mm_cal 293 1 := ⟨mm_wmem 9 125 rfl rfl, by decide +kernel, by decide +kernel, by decide +kernel, by decide +kernel⟩
theorem md_c294 : mm_cal 294 2 := ⟨mm_wmem 9 130 rfl rfl, by decide +kernel, by decide +kernel, by decide +kernel, by decide +kernel⟩
theorem md_c295 : mm_cal 295 1 := ⟨mm_wmem 9 134 rfl rfl, by decide +kernel, by decide +kernel, by decide +kernel, by decide +kernel⟩
theorem md_c296 : mm_cal 296 1 := ⟨mm_wmem 9 138 rfl rfl, by decide +kernel, by decide +kernel, by decide +kernel, by decide +kernel⟩
theorem md_c297 : mm_cal 297 1 := ⟨mm_wmem 9 142 rfl rfl, by decide +kernel, by decide +kernel, by decide +kernel, by decide +kernel⟩
theorem md_c298 : mm_cal 298 0 := ⟨mm_wmem 9 146 rfl rfl, by decide +kernel, by decide +kernel, by decide +kernel, by decide +kernel⟩
theorem md_c299 : mm_cal 299 0 := ⟨mm_wmem 9 150 rfl rfl, by decide +kernel, by decide +kernel, by decide +kernel, by decide +kernel⟩
theorem md_c300 : mm_cal 300 0 := ⟨mm_wmem 9 154 rfl rfl, by decide +kernel, by decide +kernel, by decide +kernel, by decide +kernel⟩
theorem md_c301 : mm_cal 301 1 := ⟨mm_wmem 9 158 rfl rfl, by decide +kernel, by decide +kernel, by decide +kernel, by decide +kernel⟩
theorem md_c302 : mm_cal 302 0 := ⟨mm_wmem 9 162 rfl rfl, by decide +kernel, by decide +kernel, by decide +kernel, by decide +kernel⟩
theorem md_c303 : mm_cal 303 0 := ⟨mm_wmem 9 166 rfl rfl, by decide +kernel, by decide +kernel, by decide +kernel, by decide +kernel⟩
theorem md_c304 : mm_cal 304 2 := ⟨mm_wmem 9 170 rfl rfl, by decide +kernel, by decide +kernel, by decide +kernel, by decide +kernel⟩
theorem md_c305 : mm_cal 305 3 := ⟨mm_wmem 9 175 rfl rfl, by decide +kernel, by decide +kernel, by decide +kernel, by decide +kernel⟩
theorem md_c306 : mm_cal 306 0 := ⟨mm_wmem 9 179 rfl rfl, by decide +kernel, by decide +kernel, by decide +kernel, by decide +kernel⟩
theorem md_c307 : mm_cal 307 1 := ⟨mm_wmem 9 182 rfl rfl, by decide +kernel, by decide +kernel, by decide +kernel, by decide +kernel⟩
theorem md_c308 : mm_cal 308 3 := ⟨mm_wmem 9 185 rfl rfl, by decide +kernel, by decide +kernel, by decide +kernel, by decide +kernel⟩
theorem md_c309 : mm_cal 309 2 := ⟨mm_wmem 9 188 rfl rfl, by decide +kernel, by decide +kernel, by decide +kernel, by decide +kernel⟩
theorem md_c310 : mm_cal 310 0 := ⟨mm_wmem 9 192 rfl rfl, by decide +kernel, by decide +kernel, by decide +kernel, by decide +kernel⟩
theorem md_c311 : mm_cal 311 0 := ⟨mm_wmem 9 196 rfl rfl, by decide +kernel, by decide +kernel, by decide +kernel, by decide +kernel⟩
theorem md_c312 : mm_cal 312 1 := ⟨mm_wmem 9 200 rfl rfl, by decide +kernel, by decide +kernel, by decide +kernel, by decide +kernel⟩
theorem md_c313 : mm_cal 313 0 := ⟨mm_wmem 9 204 rfl rfl, by decide +kernel, by decide +kernel, by decide +kernel, by decide +kernel⟩
theorem md_c314 : mm_cal 314 0 := ⟨mm_wmem 9 208 rfl rfl, by decide +kernel, by decide +kernel, by decide +kernel, by decide +kernel⟩
theorem md_c315 : mm_cal 315 0 := ⟨mm_wmem 9 212 rfl rfl, by decide +kernel, by decide +kernel, by decide +kernel, by decide +kernel⟩
theorem md_c316 : mm_cal 316 0 := ⟨mm_wmem 9 216 rfl rfl, by decide +kernel, by decide +kernel, by decide +kernel, by decide +kernel⟩
theorem md_c317 : mm_cal 317 1 := ⟨mm_wmem 9 220 rfl rfl, by decide +kernel, by decide +kernel, by decide +kernel, by decide +kernel⟩
theorem md_c318 : mm_cal 318 2 := ⟨mm_wmem 9 223 rfl rfl, by decide +kernel, by decide +kernel, by decide +kernel, by decide +kernel⟩
theorem md_c319 : mm_cal 319 0 := ⟨mm_wmem 9 227 rfl rfl, by decide +kernel, by decide +kernel, by decide +kernel, by decide +kernel⟩
theorem md_c320 : mm_cal 320 0 := ⟨mm_wmem 9 231 rfl rfl, by decide +kernel, by decide +kernel, by decide +kernel, by decide +kernel⟩
theorem md_c321 : mm_cal 321 0 := ⟨mm_wmem 9 235 rfl rfl, by decide +kernel, by decide +kernel, by decide +kernel, by decide +kernel⟩
theorem md_c322 : mm_cal 322 1 := ⟨mm_wmem 9 239 rfl rfl, by decide +kernel, by decide +kernel, by decide +kernel, by decide +kernel⟩
theorem md_c323 : mm_cal 323 0 := ⟨mm_wmem 10 3 rfl rfl, by decide +kernel, by decide +kernel, by decide +kernel, by decide +kernel⟩
theorem md_c324 : mm_cal 324 0 := ⟨mm_wmem 10 7 rfl rfl, by decide +kernel, by decide +kernel, by decide +kernel, by decide +kernel⟩
theorem md_c325 : mm_cal 325 0 := ⟨mm_wmem 10 11 rfl rfl, by decide +kernel, by decide +kernel, by decide +kernel, by decide +kernel⟩
theorem md_c326 : mm_cal 326 1 := ⟨mm_wmem 10 14 rfl rfl, by decide +kernel, by decide +kernel, by decide +kernel, by decide +kernel⟩
theorem md_c327 : mm_cal 327 3 := ⟨mm_wmem 10 18 rfl rfl, by decide +kernel, by decide +kernel, by decide +kernel, by decide +kernel⟩
theorem md_c328 : mm_cal 328 3 := ⟨mm_wmem 10 22 rfl rfl, by decide +kernel, by decide +kernel, by decide +kernel, by decide +kernel⟩
theorem md_c329 : mm_cal 329 2 := ⟨mm_wmem 10 26 rfl rfl, by decide +kernel, by decide +kernel, by decide +kernel, by decide +kernel⟩
theorem md_c330 : mm_cal 330 3 := ⟨mm_wmem 10 30 rfl rfl, by decide +kernel, by decide +kernel, by decide +kernel, by decide +kernel⟩
theorem md_c331 : mm_cal 331 1 := ⟨mm_wmem 10 34 rfl rfl, by decide +kernel, by decide +kernel, by decide +kernel, by decide +kernel⟩
theorem md_c332 : mm_cal 332 0 := ⟨mm_wmem 10 38 rfl rfl, by decide +kernel, by decide +kernel, by decide +kernel, by decide +kernel⟩
theorem md_c333 : mm_cal 333 0 := ⟨mm_wmem 10 42 rfl rfl, by decide +kernel, by decide +kernel, by decide +kernel, by decide +kernel⟩
theorem md_c334 : mm_cal 334 0 := ⟨mm_wmem 10 46 rfl rfl, by decide +kernel, by decide +kernel, by decide +kernel, by decide +kernel⟩
theorem md_c335 : mm_cal 335 0 := ⟨mm_wmem 10 50 rfl rfl, by decide +kernel, by decide +kernel, by decide +kernel, by decide +kernel⟩
theorem md_c336 : mm_cal 336 0 := ⟨mm_wmem 10 54 rfl rfl, by decide +kernel, by decide +kernel, by decide +kernel, by decide +kernel⟩
theorem md_c337 : mm_cal 337 2 := ⟨mm_wmem 10 58 rfl rfl, by decide +kernel, by decide +kernel, by decide +kernel, by decide +kernel⟩
theorem md_c338 : mm_cal 338 0 := ⟨mm_wmem 10 62 rfl rfl, by decide +kernel, by decide +kernel, by decide +kernel, by decide +kernel⟩
theorem md_c339 : mm_cal 339 0 := ⟨mm_wmem 10 66 rfl rfl, by decide +kernel, by decide +kernel, by decide +kernel, by decide +kernel⟩
theorem md_c340 : mm_cal 340 2 := ⟨mm_wmem 10 70 rfl rfl, by decide +kernel, by decide +kernel, by decide +kernel, by decide +kernel⟩
theorem md_c341 : mm_cal 341 1 := ⟨mm_wmem 10 74 rfl rfl, by decide +kernel, by decide +kernel, by decide +kernel, by decide +kernel⟩
theorem md_c342 : mm_cal 342 1 := ⟨mm_wmem 10 78 rfl rfl, by decide +kernel, by decide +kernel, by decide +kernel, by decide +kernel⟩
theorem md_c343 : mm_cal 343 2 := ⟨mm_wmem 10 82 rfl rfl, by decide +kernel, by decide +kernel, by decide +kernel, by decide +kernel⟩
theorem md_c344 : mm_cal 344 0 := ⟨mm_wmem 10 86 rfl rfl, by decide +kernel, by decide +kernel, by decide +kernel, by decide +kernel⟩
theorem md_c345 : mm_cal 345 2 := ⟨mm_wmem 10 90 rfl rfl, by decide +kernel, by decide +kernel, by decide +kernel, by decide +kernel⟩
theorem md_c346 : mm_cal 346 0 := ⟨mm_wmem 10 95 rfl rfl, by decide +kernel, by decide +kernel, by decide +kernel, by decide +kernel⟩
theorem md_c347 : mm_cal 347 1 := ⟨mm_wmem 10 99 rfl rfl, by decide +kernel, by decide +kernel, by decide +kernel, by decide +kernel⟩
theorem md_c348 : mm_cal 348 1 := ⟨mm_wmem 10 104 rfl rfl, by decide +kernel, by decide +kernel, by decide +kernel, by decide +kernel⟩
theorem md_c349 : mm_cal 349 1 := ⟨mm_wmem 10 108 rfl rfl, by decide +kernel, by decide +kernel, by decide +kernel, by decide +kernel⟩
theorem md_c350 : mm_cal 350 1 := ⟨mm_wmem 10 113 rfl rfl, by decide +kernel, by decide +kernel, by decide +kernel, by decide +kernel⟩
theorem md_c351 : mm_cal 351 0 := ⟨mm_wmem 10 117 rfl rfl, by decide +kernel, by decide +kernel, by decide +kernel, by decide +kernel⟩
theorem md_c352 : mm_cal 352 0 := ⟨mm_wmem 10 121 rfl rfl, by decide +kernel, by decide +kernel, by decide +kernel, by decide +kernel⟩
theorem md_c353 : mm_cal 353 0 := ⟨mm_wmem 10 125 rfl rfl, by decide +kernel, by decide +kernel, by decide +kernel, by decide +kernel⟩
theorem md_c354 : mm_cal 354 2 := ⟨mm_wmem 3 72 rfl rfl, by decide +kernel, by decide +kernel, by decide +kernel, by decide +kernel⟩
theorem md_c355 : mm_cal 355 2 := ⟨mm_wmem 3 181 rfl rfl, by decide +kernel, by decide +kernel, by decide +kernel, by decide +kernel⟩
theorem md_c356 : mm_cal 356 1 := ⟨mm_wmem 4 110 rfl rfl, by decide +kernel, by decide +kernel, by decide +kernel, by decide +kernel⟩
theorem md_c357 : mm_cal 357 2 := ⟨mm_wmem 4 84 rfl rfl, by decide +kernel, by decide +kernel, by decide +kernel, by decide +kernel⟩
theorem md_c358 : mm_cal 358 1 := ⟨mm_wmem 4 104 rfl rfl, by decide +kernel, by decide +kernel, by decide +kernel, by decide +kernel⟩
theorem md_c359 : mm_cal 359 0 := ⟨mm_wmem 5 216 rfl rfl, by decide +kernel, by decide +kernel, by decide +kernel, by decide +kernel⟩
theorem md_c360 : mm_cal 360 0 := ⟨mm_wmem 4 208 rfl rfl, by decide +kernel, by decide +kernel, by decide +kernel, by decide +kernel⟩
theorem md_c361 : mm_cal 361 0 := ⟨mm_wmem 4 212 rfl rfl, by decide +kernel, by decide +kernel, by decide +kernel, by decide +kernel⟩
theorem md_c362 : mm_cal 362 1 := ⟨mm_wmem 4 218 rfl rfl, by decide +kernel, by decide +kernel, by decide +kernel, by decide +kernel⟩
theorem md_c363 : mm_cal 363 0 := ⟨mm_wmem 4 222 rfl rfl, by decide +kernel, by decide +kernel, by decide +kernel, by decide +kernel⟩
theorem md_c364 : mm_cal 364 2 := ⟨mm_wmem 4 225 rfl rfl, by decide +kernel, by decide +kernel, by decide +kernel, by decide +kernel⟩
theorem md_c365 : mm_cal 365 2 := ⟨mm_wmem 4 228 rfl rfl, by decide +kernel, by decide +kernel, by decide +kernel, by decide +kernel⟩
theorem md_c366 : mm_cal 366 3 := ⟨mm_wmem 4 233 rfl rfl, by decide +kernel, by decide +kernel, by decide +kernel, by decide +kernel⟩
theorem md_ca0 : ∀ i, i < 16 → 1 ≤ 0 + i → mm_cal (0 + i) (md_np (0 + i)) := by
  intro i hi h1
  match i, hi, h1 with
  | 0, _, h1 => exact absurd h1 (by decide)
  | 1, _, _ => exact md_c1
  | 2, _, _ => exact md_c2
  | 3, _, _ => exact md_c3
  | 4, _, _ => exact md_c4
  | 5, _, _ => exact md_c5
  | 6, _, _ => exact md_c6
  | 7, _, _ => exact md_c7
  | 8, _, _ => exact md_c8
  | 9, _, _ => exact md_c9
  | 10, _, _ => exact md_c10
  | 11, _, _ => exact md_c11
  | 12, _, _ => exact md_c12
  | 13, _, _ => exact md_c13
  | 14, _, _ => exact md_c14
  | 15, _, _ => exact md_c15
  | n + 16, hi, _ => omega
theorem md_ca1 : ∀ i, i < 16 → 1 ≤ 16 + i → mm_cal (16 + i) (md_np (16 + i)) := by
  intro i hi h1
  match i, hi, h1 with
  | 0, _, _ => exact md_c16
  | 1, _, _ => exact md_c17
  | 2, _, _ => exact md_c18
  | 3, _, _ => exact md_c19
  | 4, _, _ => exact md_c20
  | 5, _, _ => exact md_c21
  | 6, _, _ => exact md_c22
  | 7, _, _ => exact md_c23
  | 8, _, _ => exact md_c24
  | 9, _, _ => exact md_c25
  | 10, _, _ => exact md_c26
  | 11, _, _ => exact md_c27
  | 12, _, _ => exact md_c28
  | 13, _, _ => exact md_c29
  | 14, _, _ => exact md_c30
  | 15, _, _ => exact md_c31
  | n + 16, hi, _ => omega
theorem md_ca2 : ∀ i, i < 16 → 1 ≤ 32 + i → mm_cal (32 + i) (md_np (32 + i)) := by
  intro i hi h1
  match i, hi, h1 with
  | 0, _, _ => exact md_c32
  | 1, _, _ => exact md_c33
  | 2, _, _ => exact md_c34
  | 3, _, _ => exact md_c35
  | 4, _, _ => exact md_c36
  | 5, _, _ => exact md_c37
  | 6, _, _ => exact md_c38
  | 7, _, _ => exact md_c39
  | 8, _, _ => exact md_c40
  | 9, _, _ => exact md_c41
  | 10, _, _ => exact md_c42
  | 11, _, _ => exact md_c43
  | 12, _, _ => exact md_c44
  | 13, _, _ => exact md_c45
  | 14, _, _ => exact md_c46
  | 15, _, _ => exact md_c47
  | n + 16, hi, _ => omega
theorem md_ca3 : ∀ i, i < 16 → 1 ≤ 48 + i → mm_cal (48 + i) (md_np (48 + i)) := by
  intro i hi h1
  match i, hi, h1 with
  | 0, _, _ => exact md_c48
  | 1, _, _ => exact md_c49
  | 2, _, _ => exact md_c50
  | 3, _, _ => exact md_c51
  | 4, _, _ => exact md_c52
  | 5, _, _ => exact md_c53
  | 6, _, _ => exact md_c54
  | 7, _, _ => exact md_c55
  | 8, _, _ => exact md_c56
  | 9, _, _ => exact md_c57
  | 10, _, _ => exact md_c58
  | 11, _, _ => exact md_c59
  | 12, _, _ => exact md_c60
  | 13, _, _ => exact md_c61
  | 14, _, _ => exact md_c62
  | 15, _, _ => exact md_c63
  | n + 16, hi, _ => omega
theorem md_ca4 : ∀ i, i < 16 → 1 ≤ 64 + i → mm_cal (64 + i) (md_np (64 + i)) := by
  intro i hi h1
  match i, hi, h1 with
  | 0, _, _ => exact md_c64
  | 1, _, _ => exact md_c65
  | 2, _, _ => exact md_c66
  | 3, _, _ => exact md_c67
  | 4, _, _ => exact md_c68
  | 5, _, _ => exact md_c69
  | 6, _, _ => exact md_c70
  | 7, _, _ => exact md_c71
  | 8, _, _ => exact md_c72
  | 9, _, _ => exact md_c73
  | 10, _, _ => exact md_c74
  | 11, _, _ => exact md_c75
  | 12, _, _ => exact md_c76
  | 13, _, _ => exact md_c77
  | 14, _, _ => exact md_c78
  | 15, _, _ => exact md_c79
  | n + 16, hi, _ => omega
theorem md_ca5 : ∀ i, i < 16 → 1 ≤ 80 + i → mm_cal (80 + i) (md_np (80 + i)) := by
  intro i hi h1
  match i, hi, h1 with
  | 0, _, _ => exact md_c80
  | 1, _, _ => exact md_c81
  | 2, _, _ => exact md_c82
  | 3, _, _ => exact md_c83
  | 4, _, _ => exact md_c84
  | 5, _, _ => exact md_c85
  | 6, _, _ => exact md_c86
  | 7, _, _ => exact md_c87
  | 8, _, _ => exact md_c88
  | 9, _, _ => exact md_c89
  | 10, _, _ => exact md_c90
  | 11, _, _ => exact md_c91
  | 12, _, _ => exact md_c92
  | 13, _, _ => exact md_c93
  | 14, _, _ => exact md_c94
  | 15, _, _ => exact md_c95
  | n + 16, hi, _ => omega
theorem md_ca6 : ∀ i, i < 16 → 1 ≤ 96 + i → mm_cal (96 + i) (md_np (96 + i)) := by
  intro i hi h1
  match i, hi, h1 with
  | 0, _, _ => exact md_c96
  | 1, _, _ => exact md_c97
  | 2, _, _ => exact md_c98
  | 3, _, _ => exact md_c99
  | 4, _, _ => exact md_c100
  | 5, _, _ => exact md_c101
  | 6, _, _ => exact md_c102
  | 7, _, _ => exact md_c103
  | 8, _, _ => exact md_c104
  | 9, _, _ => exact md_c105
  | 10, _, _ => exact md_c106
  | 11, _, _ => exact md_c107
  | 12, _, _ => exact md_c108
  | 13, _, _ => exact md_c109
  | 14, _, _ => exact md_c110
  | 15, _, _ => exact md_c111
  | n + 16, hi, _ => omega
theorem md_ca7 : ∀ i, i < 16 → 1 ≤ 112 + i → mm_cal (112 + i) (md_np (112 + i)) := by
  intro i hi h1
  match i, hi, h1 with
  | 0, _, _ => exact md_c112
  | 1, _, _ => exact md_c113
  | 2, _, _ => exact md_c114
  | 3, _, _ => exact md_c115
  | 4, _, _ => exact md_c116
  | 5, _, _ => exact md_c117
  | 6, _, _ => exact md_c118
  | 7, _, _ => exact md_c119
  | 8, _, _ => exact md_c120
  | 9, _, _ => exact md_c121
  | 10, _, _ => exact md_c122
  | 11, _, _ => exact md_c123
  | 12, _, _ => exact md_c124
  | 13, _, _ => exact md_c125
  | 14, _, _ => exact md_c126
  | 15, _, _ => exact md_c127
  | n + 16, hi, _ => omega
theorem md_ca8 : ∀ i, i < 16 → 1 ≤ 128 + i → mm_cal (128 + i) (md_np (128 + i)) := by
  intro i hi h1
  match i, hi, h1 with
  | 0, _, _ => exact md_c128
  | 1, _, _ => exact md_c129
  | 2, _, _ => exact md_c130
  | 3, _, _ => exact md_c131
  | 4, _, _ => exact md_c132
  | 5, _, _ => exact md_c133
  | 6, _, _ => exact md_c134
  | 7, _, _ => exact md_c135
  | 8, _, _ => exact md_c136
  | 9, _, _ => exact md_c137
  | 10, _, _ => exact md_c138
  | 11, _, _ => exact md_c139
  | 12, _, _ => exact md_c140
  | 13, _, _ => exact md_c141
  | 14, _, _ => exact md_c142
  | 15, _, _ => exact md_c143
  | n + 16, hi, _ => omega
theorem md_ca9 : ∀ i, i < 16 → 1 ≤ 144 + i → mm_cal (144 + i) (md_np (144 + i)) := by
  intro i hi h1
  match i, hi, h1 with
  | 0, _, _ => exact md_c144
  | 1, _, _ => exact md_c145
  | 2, _, _ => exact md_c146
  | 3, _, _ => exact md_c147
  | 4, _, _ => exact md_c148
  | 5, _, _ => exact md_c149
  | 6, _, _ => exact md_c150
  | 7, _, _ => exact md_c151
  | 8, _, _ => exact md_c152
  | 9, _, _ => exact md_c153
  | 10, _, _ => exact md_c154
  | 11, _, _ => exact md_c155
  | 12, _, _ => exact md_c156
  | 13, _, _ => exact md_c157
  | 14, _, _ => exact md_c158
  | 15, _, _ => exact md_c159
  | n + 16, hi, _ => omega
theorem md_ca10 : ∀ i, i < 16 → 1 ≤ 160 + i → mm_cal (160 + i) (md_np (160 + i)) := by
  intro i hi h1
  match i, hi, h1 with
  | 0, _, _ => exact md_c160
  | 1, _, _ => exact md_c161
  | 2, _, _ => exact md_c162
  | 3, _, _ => exact md_c163
  | 4, _, _ => exact md_c164
  | 5, _, _ => exact md_c165
  | 6, _, _ => exact md_c166
  | 7, _, _ => exact md_c167
  | 8, _, _ => exact md_c168
  | 9, _, _ => exact md_c169
  | 10, _, _ => exact md_c170
  | 11, _, _ => exact md_c171
  | 12, _, _ => exact md_c172
  | 13, _, _ => exact md_c173
  | 14, _, _ => exact md_c174
  | 15, _, _ => exact md_c175
  | n + 16, hi, _ => omega
theorem md_ca11 : ∀ i, i < 16 → 1 ≤ 176 + i → mm_cal (176 + i) (md_np (176 + i)) := by
  intro i hi h1
  match i, hi, h1 with
  | 0, _, _ => exact md_c176
  | 1, _, _ => exact md_c177
  | 2, _, _ => exact md_c178
  | 3, _, _ => exact md_c179
  | 4, _, _ => exact md_c180
  | 5, _, _ => exact md_c181
  | 6, _, _ => exact md_c182
  | 7, _, _ => exact md_c183
  | 8, _, _ => exact md_c184
  | 9, _, _ => exact md_c185
  | 10, _, _ => exact md_c186
  | 11, _, _ => exact md_c187
  | 12, _, _ => exact md_c188
  | 13, _, _ => exact md_c189
  | 14, _, _ => exact md_c190
  | 15, _, _ => exact md_c191
  | n + 16, hi, _ => omega
theorem md_ca12 : ∀ i, i < 16 → 1 ≤ 192 + i → mm_cal (192 + i) (md_np (192 + i)) := by
  intro i hi h1
  match i, hi, h1 with
  | 0, _, _ => exact md_c192
  | 1, _, _ => exact md_c193
  | 2, _, _ => exact md_c194
  | 3, _, _ => exact md_c195
  | 4, _, _ => exact md_c196
  | 5, _, _ => exact md_c197
  | 6, _, _ => exact md_c198
  | 7, _, _ => exact md_c199
  | 8, _, _ => exact md_c200
  | 9, _, _ => exact md_c201
  | 10, _, _ => exact md_c202
  | 11, _, _ => exact md_c203
  | 12, _, _ => exact md_c204
  | 13, _, _ => exact md_c205
  | 14, _, _ => exact md_c206
  | 15, _, _ => exact md_c207
  | n + 16, hi, _ => omega
theorem md_ca13 : ∀ i, i < 16 → 1 ≤ 208 + i → mm_cal (208 + i) (md_np (208 + i)) := by
  intro i hi h1
  match i, hi, h1 with
  | 0, _, _ => exact md_c208
  | 1, _, _ => exact md_c209
  | 2, _, _ => exact md_c210
  | 3, _, _ => exact md_c211
  | 4, _, _ => exact md_c212
  | 5, _, _ => exact md_c213
  | 6, _, _ => exact md_c214
  | 7, _, _ => exact md_c215
  | 8, _, _ => exact md_c216
  | 9, _, _ => exact md_c217
  | 10, _, _ => exact md_c218
  | 11, _, _ => exact md_c219
  | 12, _, _ => exact md_c220
  | 13, _, _ => exact md_c221
  | 14, _, _ => exact md_c222
  | 15, _, _ => exact md_c223
  | n + 16, hi, _ => omega
theorem md_ca14 : ∀ i, i < 16 → 1 ≤ 224 + i → mm_cal (224 + i) (md_np (224 + i)) := by
  intro i hi h1
  match i, hi, h1 with
  | 0, _, _ => exact md_c224
  | 1, _, _ => exact md_c225
  | 2, _, _ => exact md_c226
  | 3, _, _ => exact md_c227
  | 4, _, _ => exact md_c228
  | 5, _, _ => exact md_c229
  | 6, _, _ => exact md_c230
  | 7, _, _ => exact md_c231
  | 8, _, _ => exact md_c232
  | 9, _, _ => exact md_c233
  | 10, _, _ => exact md_c234
  | 11, _, _ => exact md_c235
  | 12, _, _ => exact md_c236
  | 13, _, _ => exact md_c237
  | 14, _, _ => exact md_c238
  | 15, _, _ => exact md_c239
  | n + 16, hi, _ => omega
theorem md_ca15 : ∀ i, i < 16 → 1 ≤ 240 + i → mm_cal (240 + i) (md_np (240 + i)) := by
  intro i hi h1
  match i, hi, h1 with
  | 0, _, _ => exact md_c240
  | 1, _, _ => exact md_c241
  | 2, _, _ => exact md_c242
  | 3, _, _ => exact md_c243
  | 4, _, _ => exact md_c244
  | 5, _, _ => exact md_c245
  | 6, _, _ => exact md_c246
  | 7, _, _ => exact md_c247
  | 8, _, _ => exact md_c248
  | 9, _, _ => exact md_c249
  | 10, _, _ => exact md_c250
  | 11, _, _ => exact md_c251
  | 12, _, _ => exact md_c252
  | 13, _, _ => exact md_c253
  | 14, _, _ => exact md_c254
  | 15, _, _ => exact md_c255
  | n + 16, hi, _ => omega
theorem md_ca16 : ∀ i, i < 16 → 1 ≤ 256 + i → mm_cal (256 + i) (md_np (256 + i)) := by
  intro i hi h1
  match i, hi, h1 with
  | 0, _, _ => exact md_c256
  | 1, _, _ => exact md_c257
  | 2, _, _ => exact md_c258
  | 3, _, _ => exact md_c259
  | 4, _, _ => exact md_c260
  | 5, _, _ => exact md_c261
  | 6, _, _ => exact md_c262
  | 7, _, _ => exact md_c263
  | 8, _, _ => exact md_c264
  | 9, _, _ => exact md_c265
  | 10, _, _ => exact md_c266
  | 11, _, _ => exact md_c267
  | 12, _, _ => exact md_c268
  | 13, _, _ => exact md_c269
  | 14, _, _ => exact md_c270
  | 15, _, _ => exact md_c271
  | n + 16, hi, _ => omega
theorem md_ca17 : ∀ i, i < 16 → 1 ≤ 272 + i → mm_cal (272 + i) (md_np (272 + i)) := by
  intro i hi h1
  match i, hi, h1 with
  | 0, _, _ => exact md_c272
  | 1, _, _ => exact md_c273
  | 2, _, _ => exact md_c274
  | 3, _, _ => exact md_c275
  | 4, _, _ => exact md_c276
  | 5, _, _ => exact md_c277
  | 6, _, _ => exact md_c278
  | 7, _, _ => exact md_c279
  | 8, _, _ => exact md_c280
  | 9, _, _ => exact md_c281
  | 10, _, _ => exact md_c282
  | 11, _, _ => exact md_c283
  | 12, _, _ => exact md_c284
  | 13, _, _ => exact md_c285
  | 14, _, _ => exact md_c286
  | 15, _, _ => exact md_c287
  | n + 16, hi, _ => omega
theorem md_ca18 : ∀ i, i < 16 → 1 ≤ 288 + i → mm_cal (288 + i) (md_np (288 + i)) := by
  intro i hi h1
  match i, hi, h1 with
  | 0, _, _ => exact md_c288
  | 1, _, _ => exact md_c289
  | 2, _, _ => exact md_c290
  | 3, _, _ => exact md_c291
  | 4, _, _ => exact md_c292
  | 5, _, _ => exact md_c293
  | 6, _, _ => exact md_c294
  | 7, _, _ => exact md_c295
  | 8, _, _ => exact md_c296
  | 9, _, _ => exact md_c297
  | 10, _, _ => exact md_c298
  | 11, _, _ => exact md_c299
  | 12, _, _ => exact md_c300
  | 13, _, _ => exact md_c301
  | 14, _, _ => exact md_c302
  | 15, _, _ => exact md_c303
  | n + 16, hi, _ => omega
theorem md_ca19 : ∀ i, i < 16 → 1 ≤ 304 + i → mm_cal (304 + i) (md_np (304 + i)) := by
  intro i hi h1
  match i, hi, h1 with
  | 0, _, _ => exact md_c304
  | 1, _, _ => exact md_c305
  | 2, _, _ => exact md_c306
  | 3, _, _ => exact md_c307
  | 4, _, _ => exact md_c308
  | 5, _, _ => exact md_c309
  | 6, _, _ => exact md_c310
  | 7, _, _ => exact md_c311
  | 8, _, _ => exact md_c312
  | 9, _, _ => exact md_c313
  | 10, _, _ => exact md_c314
  | 11, _, _ => exact md_c315
  | 12, _, _ => exact md_c316
  | 13, _, _ => exact md_c317
  | 14, _, _ => exact md_c318
  | 15, _, _ => exact md_c319
  | n + 16, hi, _ => omega
theorem md_ca20 : ∀ i, i < 16 → 1 ≤ 320 + i → mm_cal (320 + i) (md_np (320 + i)) := by
  intro i hi h1
  match i, hi, h1 with
  | 0, _, _ => exact md_c320
  | 1, _, _ => exact md_c321
  | 2, _, _ => exact md_c322
  | 3, _, _ => exact md_c323
  | 4, _, _ => exact md_c324
  | 5, _, _ => exact md_c325
  | 6, _, _ => exact md_c326
  | 7, _, _ => exact md_c327
  | 8, _, _ => exact md_c328
  | 9, _, _ => exact md_c329
  | 10, _, _ => exact md_c330
  | 11, _, _ => exact md_c331
  | 12, _, _ => exact md_c332
  | 13, _, _ => exact md_c333
  | 14, _, _ => exact md_c334
  | 15, _, _ => exact md_c335
  | n + 16, hi, _ => omega
theorem md_ca21 : ∀ i, i < 16 → 1 ≤ 336 + i → mm_cal (336 + i) (md_np (336 + i)) := by
  intro i hi h1
  match i, hi, h1 with
  | 0, _, _ => exact md_c336
  | 1, _, _ => exact md_c337
  | 2, _, _ => exact md_c338
  | 3, _, _ => exact md_c339
  | 4, _, _ => exact md_c340
  | 5, _, _ => exact md_c341
  | 6, _, _ => exact md_c342
  | 7, _, _ => exact md_c343
  | 8, _, _ => exact md_c344
  | 9, _, _ => exact md_c345
  | 10, _, _ => exact md_c346
  | 11, _, _ => exact md_c347
  | 12, _, _ => exact md_c348
  | 13, _, _ => exact md_c349
  | 14, _, _ => exact md_c350
  | 15, _, _ => exact md_c351
  | n + 16, hi, _ => omega
theorem md_ca22 : ∀ i, i < 15 → 1 ≤ 352 + i → mm_cal (352 + i) (md_np (352 + i)) := by
  intro i hi h1
  match i, hi, h1 with
  | 0, _, _ => exact md_c352
  | 1, _, _ => exact md_c353
  | 2, _, _ => exact md_c354
  | 3, _, _ => exact md_c355
  | 4, _, _ => exact md_c356
  | 5, _, _ => exact md_c357
  | 6, _, _ => exact md_c358
  | 7, _, _ => exact md_c359
  | 8, _, _ => exact md_c360
  | 9, _, _ => exact md_c361
  | 10, _, _ => exact md_c362
  | 11, _, _ => exact md_c363
  | 12, _, _ => exact md_c364
  | 13, _, _ => exact md_c365
  | 14, _, _ => exact md_c366
  | n + 15, hi, _ => omega
theorem md_call : ∀ j, 1 ≤ j → j < md_nM → mm_cal j (md_np j) := by
  intro j h1 h2
  have h3 : j < 367 := h2
  obtain ⟨a, i, hi, rfl⟩ : ∃ a i, i < 16 ∧ j = 16 * a + i := ⟨j / 16, j % 16, by omega, by omega⟩
  match a, h1, h3 with
  | 0, h1, h3 => exact md_ca0 i (by omega) h1
  | 1, h1, h3 => exact md_ca1 i (by omega) h1
  | 2, h1, h3 => exact md_ca2 i (by omega) h1
  | 3, h1, h3 => exact md_ca3 i (by omega) h1
  | 4, h1, h3 => exact md_ca4 i (by omega) h1
  | 5, h1, h3 => exact md_ca5 i (by omega) h1
  | 6, h1, h3 => exact md_ca6 i (by omega) h1
  | 7, h1, h3 => exact md_ca7 i (by omega) h1
  | 8, h1, h3 => exact md_ca8 i (by omega) h1
  | 9, h1, h3 => exact md_ca9 i (by omega) h1
  | 10, h1, h3 => exact md_ca10 i (by omega) h1
  | 11, h1, h3 => exact md_ca11 i (by omega) h1
  | 12, h1, h3 => exact md_ca12 i (by omega) h1
  | 13, h1, h3 => exact md_ca13 i (by omega) h1
  | 14, h1, h3 => exact md_ca14 i (by omega) h1
  | 15, h1, h3 => exact md_ca15 i (by omega) h1
  | 16, h1, h3 => exact md_ca16 i (by omega) h1
  | 17, h1, h3 => exact md_ca17 i (by omega) h1
  | 18, h1, h3 => exact md_ca18 i (by omega) h1
  | 19, h1, h3 => exact md_ca19 i (by omega) h1
  | 20, h1, h3 => exact md_ca20 i (by omega) h1
  | 21, h1, h3 => exact md_ca21 i (by omega) h1
  | 22, h1, h3 => exact md_ca22 i (by omega) h1
  | n + 23, _, h3 => omega
set_option maxRecDepth 1000000 in
theorem md_th0a : ∀ w ∈ Jvm.Cond.classLink "PaintBank" 97 "java/lang/IllegalStateException" :: Jvm.Cond.initialized "java/lang/IllegalStateException" :: vx_atS "PaintBank" 101 "java/lang/IllegalStateException" ["java/lang/RuntimeException", "java/lang/Exception"], (w ∈ lw_tbl ∧ goodWord w = true) ∨ w ∈ md_gw := by decide +kernel
set_option maxRecDepth 1000000 in
theorem md_th0b : ∀ w ∈ Jvm.Cond.classLink "PaintBank" 97 "java/lang/IllegalStateException" :: Jvm.Cond.initialized "java/lang/IllegalStateException" :: vx_atS "PaintBank" 101 "java/lang/IllegalStateException" ["java/lang/RuntimeException", "java/lang/Exception"], vx_ot w = true := by decide +kernel
set_option maxRecDepth 1000000 in
theorem md_th0 : mm_thr 61 16 97 0 := ⟨"the buffer is full", ["java/lang/RuntimeException", "java/lang/Exception"], 99, 101, 28, by decide +kernel, Or.inl ⟨by decide +kernel, by decide +kernel, by decide +kernel⟩, by decide +kernel, by decide +kernel, fun w hw => (md_th0a w hw).imp (fun z => mm_wTg z.1 z.2) id, md_th0b, by decide +kernel, by decide +kernel, rfl⟩
set_option maxRecDepth 1000000 in
theorem md_th1a : ∀ w ∈ Jvm.Cond.classLink "PaintBank" 108 "java/lang/IllegalArgumentException" :: Jvm.Cond.initialized "java/lang/IllegalArgumentException" :: vx_atS "PaintBank" 112 "java/lang/IllegalArgumentException" ["java/lang/RuntimeException", "java/lang/Exception"], (w ∈ lw_tbl ∧ goodWord w = true) ∨ w ∈ md_gw := by decide +kernel
set_option maxRecDepth 1000000 in
theorem md_th1b : ∀ w ∈ Jvm.Cond.classLink "PaintBank" 108 "java/lang/IllegalArgumentException" :: Jvm.Cond.initialized "java/lang/IllegalArgumentException" :: vx_atS "PaintBank" 112 "java/lang/IllegalArgumentException" ["java/lang/RuntimeException", "java/lang/Exception"], vx_ot w = true := by decide +kernel
set_option maxRecDepth 1000000 in
theorem md_th1 : mm_thr 62 15 108 1 := ⟨"not a length to truncate to", ["java/lang/RuntimeException", "java/lang/Exception"], 110, 112, 29, by decide +kernel, Or.inl ⟨by decide +kernel, by decide +kernel, by decide +kernel⟩, by decide +kernel, by decide +kernel, fun w hw => (md_th1a w hw).imp (fun z => mm_wTg z.1 z.2) id, md_th1b, by decide +kernel, by decide +kernel, rfl⟩
set_option maxRecDepth 1000000 in
theorem md_th2a : ∀ w ∈ Jvm.Cond.classLink "PaintBank" 108 "java/lang/IllegalArgumentException" :: Jvm.Cond.initialized "java/lang/IllegalArgumentException" :: vx_atS "PaintBank" 112 "java/lang/IllegalArgumentException" ["java/lang/RuntimeException", "java/lang/Exception"], (w ∈ lw_tbl ∧ goodWord w = true) ∨ w ∈ md_gw := by decide +kernel
set_option maxRecDepth 1000000 in
theorem md_th2b : ∀ w ∈ Jvm.Cond.classLink "PaintBank" 108 "java/lang/IllegalArgumentException" :: Jvm.Cond.initialized "java/lang/IllegalArgumentException" :: vx_atS "PaintBank" 112 "java/lang/IllegalArgumentException" ["java/lang/RuntimeException", "java/lang/Exception"], vx_ot w = true := by decide +kernel
set_option maxRecDepth 1000000 in
theorem md_th2 : mm_thr 63 21 108 1 := ⟨"the setup has an error", ["java/lang/RuntimeException", "java/lang/Exception"], 117, 112, 30, by decide +kernel, Or.inl ⟨by decide +kernel, by decide +kernel, by decide +kernel⟩, by decide +kernel, by decide +kernel, fun w hw => (md_th2a w hw).imp (fun z => mm_wTg z.1 z.2) id, md_th2b, by decide +kernel, by decide +kernel, rfl⟩
set_option maxRecDepth 1000000 in
theorem md_th3a : ∀ w ∈ Jvm.Cond.classLink "PaintBank" 108 "java/lang/IllegalArgumentException" :: Jvm.Cond.initialized "java/lang/IllegalArgumentException" :: vx_atS "PaintBank" 112 "java/lang/IllegalArgumentException" ["java/lang/RuntimeException", "java/lang/Exception"], (w ∈ lw_tbl ∧ goodWord w = true) ∨ w ∈ md_gw := by decide +kernel
set_option maxRecDepth 1000000 in
theorem md_th3b : ∀ w ∈ Jvm.Cond.classLink "PaintBank" 108 "java/lang/IllegalArgumentException" :: Jvm.Cond.initialized "java/lang/IllegalArgumentException" :: vx_atS "PaintBank" 112 "java/lang/IllegalArgumentException" ["java/lang/RuntimeException", "java/lang/Exception"], vx_ot w = true := by decide +kernel
set_option maxRecDepth 1000000 in
theorem md_th3 : mm_thr 64 20 108 1 := ⟨"the script has an error", ["java/lang/RuntimeException", "java/lang/Exception"], 134, 112, 31, by decide +kernel, Or.inl ⟨by decide +kernel, by decide +kernel, by decide +kernel⟩, by decide +kernel, by decide +kernel, fun w hw => (md_th3a w hw).imp (fun z => mm_wTg z.1 z.2) id, md_th3b, by decide +kernel, by decide +kernel, rfl⟩
set_option maxRecDepth 1000000 in
theorem md_th4a : ∀ w ∈ Jvm.Cond.classLink "PaintBank" 108 "java/lang/IllegalArgumentException" :: Jvm.Cond.initialized "java/lang/IllegalArgumentException" :: vx_atS "PaintBank" 112 "java/lang/IllegalArgumentException" ["java/lang/RuntimeException", "java/lang/Exception"], (w ∈ lw_tbl ∧ goodWord w = true) ∨ w ∈ md_gw := by decide +kernel
set_option maxRecDepth 1000000 in
theorem md_th4b : ∀ w ∈ Jvm.Cond.classLink "PaintBank" 108 "java/lang/IllegalArgumentException" :: Jvm.Cond.initialized "java/lang/IllegalArgumentException" :: vx_atS "PaintBank" 112 "java/lang/IllegalArgumentException" ["java/lang/RuntimeException", "java/lang/Exception"], vx_ot w = true := by decide +kernel
set_option maxRecDepth 1000000 in
theorem md_th4 : mm_thr 65 136 108 1 := ⟨"no such setting", ["java/lang/RuntimeException", "java/lang/Exception"], 184, 112, 32, by decide +kernel, Or.inl ⟨by decide +kernel, by decide +kernel, by decide +kernel⟩, by decide +kernel, by decide +kernel, fun w hw => (md_th4a w hw).imp (fun z => mm_wTg z.1 z.2) id, md_th4b, by decide +kernel, by decide +kernel, rfl⟩
set_option maxRecDepth 1000000 in
theorem md_th5a : ∀ w ∈ Jvm.Cond.classLink "PaintBank" 186 "java/lang/IndexOutOfBoundsException" :: Jvm.Cond.initialized "java/lang/IndexOutOfBoundsException" :: vx_atS "PaintBank" 190 "java/lang/IndexOutOfBoundsException" ["java/lang/RuntimeException", "java/lang/Exception"], (w ∈ lw_tbl ∧ goodWord w = true) ∨ w ∈ md_gw := by decide +kernel
set_option maxRecDepth 1000000 in
theorem md_th5b : ∀ w ∈ Jvm.Cond.classLink "PaintBank" 186 "java/lang/IndexOutOfBoundsException" :: Jvm.Cond.initialized "java/lang/IndexOutOfBoundsException" :: vx_atS "PaintBank" 190 "java/lang/IndexOutOfBoundsException" ["java/lang/RuntimeException", "java/lang/Exception"], vx_ot w = true := by decide +kernel
set_option maxRecDepth 1000000 in
theorem md_th5 : mm_thr 66 15 186 2 := ⟨"no such color", ["java/lang/RuntimeException", "java/lang/Exception"], 188, 190, 33, by decide +kernel, Or.inl ⟨by decide +kernel, by decide +kernel, by decide +kernel⟩, by decide +kernel, by decide +kernel, fun w hw => (md_th5a w hw).imp (fun z => mm_wTg z.1 z.2) id, md_th5b, by decide +kernel, by decide +kernel, rfl⟩
set_option maxRecDepth 1000000 in
theorem md_th6a : ∀ w ∈ Jvm.Cond.classLink "PaintBank" 186 "java/lang/IndexOutOfBoundsException" :: Jvm.Cond.initialized "java/lang/IndexOutOfBoundsException" :: vx_atS "PaintBank" 190 "java/lang/IndexOutOfBoundsException" ["java/lang/RuntimeException", "java/lang/Exception"], (w ∈ lw_tbl ∧ goodWord w = true) ∨ w ∈ md_gw := by decide +kernel
set_option maxRecDepth 1000000 in
theorem md_th6b : ∀ w ∈ Jvm.Cond.classLink "PaintBank" 186 "java/lang/IndexOutOfBoundsException" :: Jvm.Cond.initialized "java/lang/IndexOutOfBoundsException" :: vx_atS "PaintBank" 190 "java/lang/IndexOutOfBoundsException" ["java/lang/RuntimeException", "java/lang/Exception"], vx_ot w = true := by decide +kernel
set_option maxRecDepth 1000000 in
theorem md_th6 : mm_thr 68 15 186 2 := ⟨"no such lane", ["java/lang/RuntimeException", "java/lang/Exception"], 374, 190, 34, by decide +kernel, Or.inr ⟨by decide +kernel, by decide +kernel, by decide +kernel⟩, by decide +kernel, by decide +kernel, fun w hw => (md_th6a w hw).imp (fun z => mm_wTg z.1 z.2) id, md_th6b, by decide +kernel, by decide +kernel, rfl⟩
set_option maxRecDepth 1000000 in
theorem md_th7a : ∀ w ∈ Jvm.Cond.classLink "PaintBank" 186 "java/lang/IndexOutOfBoundsException" :: Jvm.Cond.initialized "java/lang/IndexOutOfBoundsException" :: vx_atS "PaintBank" 190 "java/lang/IndexOutOfBoundsException" ["java/lang/RuntimeException", "java/lang/Exception"], (w ∈ lw_tbl ∧ goodWord w = true) ∨ w ∈ md_gw := by decide +kernel
set_option maxRecDepth 1000000 in
theorem md_th7b : ∀ w ∈ Jvm.Cond.classLink "PaintBank" 186 "java/lang/IndexOutOfBoundsException" :: Jvm.Cond.initialized "java/lang/IndexOutOfBoundsException" :: vx_atS "PaintBank" 190 "java/lang/IndexOutOfBoundsException" ["java/lang/RuntimeException", "java/lang/Exception"], vx_ot w = true := by decide +kernel
set_option maxRecDepth 1000000 in
theorem md_th7 : mm_thr 70 15 186 2 := ⟨"no such car", ["java/lang/RuntimeException", "java/lang/Exception"], 376, 190, 35, by decide +kernel, Or.inr ⟨by decide +kernel, by decide +kernel, by decide +kernel⟩, by decide +kernel, by decide +kernel, fun w hw => (md_th7a w hw).imp (fun z => mm_wTg z.1 z.2) id, md_th7b, by decide +kernel, by decide +kernel, rfl⟩
set_option maxRecDepth 1000000 in
theorem md_th8a : ∀ w ∈ Jvm.Cond.classLink "PaintBank" 97 "java/lang/IllegalStateException" :: Jvm.Cond.initialized "java/lang/IllegalStateException" :: vx_atS "PaintBank" 101 "java/lang/IllegalStateException" ["java/lang/RuntimeException", "java/lang/Exception"], (w ∈ lw_tbl ∧ goodWord w = true) ∨ w ∈ md_gw := by decide +kernel
set_option maxRecDepth 1000000 in
theorem md_th8b : ∀ w ∈ Jvm.Cond.classLink "PaintBank" 97 "java/lang/IllegalStateException" :: Jvm.Cond.initialized "java/lang/IllegalStateException" :: vx_atS "PaintBank" 101 "java/lang/IllegalStateException" ["java/lang/RuntimeException", "java/lang/Exception"], vx_ot w = true := by decide +kernel
set_option maxRecDepth 1000000 in
theorem md_th8 : mm_thr 76 22 97 0 := ⟨"the car is not out", ["java/lang/RuntimeException", "java/lang/Exception"], 253, 101, 36, by decide +kernel, Or.inl ⟨by decide +kernel, by decide +kernel, by decide +kernel⟩, by decide +kernel, by decide +kernel, fun w hw => (md_th8a w hw).imp (fun z => mm_wTg z.1 z.2) id, md_th8b, by decide +kernel, by decide +kernel, rfl⟩
set_option maxRecDepth 1000000 in
theorem md_th9a : ∀ w ∈ Jvm.Cond.classLink "PaintBank" 108 "java/lang/IllegalArgumentException" :: Jvm.Cond.initialized "java/lang/IllegalArgumentException" :: vx_atS "PaintBank" 112 "java/lang/IllegalArgumentException" ["java/lang/RuntimeException", "java/lang/Exception"], (w ∈ lw_tbl ∧ goodWord w = true) ∨ w ∈ md_gw := by decide +kernel
set_option maxRecDepth 1000000 in
theorem md_th9b : ∀ w ∈ Jvm.Cond.classLink "PaintBank" 108 "java/lang/IllegalArgumentException" :: Jvm.Cond.initialized "java/lang/IllegalArgumentException" :: vx_atS "PaintBank" 112 "java/lang/IllegalArgumentException" ["java/lang/RuntimeException", "java/lang/Exception"], vx_ot w = true := by decide +kernel
set_option maxRecDepth 1000000 in
theorem md_th9 : mm_thr 82 11 108 1 := ⟨"not a number of steps to look ahead", ["java/lang/RuntimeException", "java/lang/Exception"], 378, 112, 37, by decide +kernel, Or.inr ⟨by decide +kernel, by decide +kernel, by decide +kernel⟩, by decide +kernel, by decide +kernel, fun w hw => (md_th9a w hw).imp (fun z => mm_wTg z.1 z.2) id, md_th9b, by decide +kernel, by decide +kernel, rfl⟩
set_option maxRecDepth 1000000 in
theorem md_th10a : ∀ w ∈ Jvm.Cond.classLink "PaintBank" 186 "java/lang/IndexOutOfBoundsException" :: Jvm.Cond.initialized "java/lang/IndexOutOfBoundsException" :: vx_atS "PaintBank" 190 "java/lang/IndexOutOfBoundsException" ["java/lang/RuntimeException", "java/lang/Exception"], (w ∈ lw_tbl ∧ goodWord w = true) ∨ w ∈ md_gw := by decide +kernel
set_option maxRecDepth 1000000 in
theorem md_th10b : ∀ w ∈ Jvm.Cond.classLink "PaintBank" 186 "java/lang/IndexOutOfBoundsException" :: Jvm.Cond.initialized "java/lang/IndexOutOfBoundsException" :: vx_atS "PaintBank" 190 "java/lang/IndexOutOfBoundsException" ["java/lang/RuntimeException", "java/lang/Exception"], vx_ot w = true := by decide +kernel
set_option maxRecDepth 1000000 in
theorem md_th10 : mm_thr 87 20 186 2 := ⟨"no such painting", ["java/lang/RuntimeException", "java/lang/Exception"], 347, 190, 38, by decide +kernel, Or.inr ⟨by decide +kernel, by decide +kernel, by decide +kernel⟩, by decide +kernel, by decide +kernel, fun w hw => (md_th10a w hw).imp (fun z => mm_wTg z.1 z.2) id, md_th10b, by decide +kernel, by decide +kernel, rfl⟩
set_option maxRecDepth 1000000 in
theorem md_th11a : ∀ w ∈ Jvm.Cond.classLink "PaintBank" 108 "java/lang/IllegalArgumentException" :: Jvm.Cond.initialized "java/lang/IllegalArgumentException" :: vx_atS "PaintBank" 112 "java/lang/IllegalArgumentException" ["java/lang/RuntimeException", "java/lang/Exception"], (w ∈ lw_tbl ∧ goodWord w = true) ∨ w ∈ md_gw := by decide +kernel
set_option maxRecDepth 1000000 in
theorem md_th11b : ∀ w ∈ Jvm.Cond.classLink "PaintBank" 108 "java/lang/IllegalArgumentException" :: Jvm.Cond.initialized "java/lang/IllegalArgumentException" :: vx_atS "PaintBank" 112 "java/lang/IllegalArgumentException" ["java/lang/RuntimeException", "java/lang/Exception"], vx_ot w = true := by decide +kernel
set_option maxRecDepth 1000000 in
theorem md_th11 : mm_thr 87 40 108 1 := ⟨"no such number of a painting", ["java/lang/RuntimeException", "java/lang/Exception"], 349, 112, 39, by decide +kernel, Or.inr ⟨by decide +kernel, by decide +kernel, by decide +kernel⟩, by decide +kernel, by decide +kernel, fun w hw => (md_th11a w hw).imp (fun z => mm_wTg z.1 z.2) id, md_th11b, by decide +kernel, by decide +kernel, rfl⟩
set_option maxRecDepth 1000000 in
theorem md_th12a : ∀ w ∈ Jvm.Cond.classLink "PaintBank" 186 "java/lang/IndexOutOfBoundsException" :: Jvm.Cond.initialized "java/lang/IndexOutOfBoundsException" :: vx_atS "PaintBank" 190 "java/lang/IndexOutOfBoundsException" ["java/lang/RuntimeException", "java/lang/Exception"], (w ∈ lw_tbl ∧ goodWord w = true) ∨ w ∈ md_gw := by decide +kernel
set_option maxRecDepth 1000000 in
theorem md_th12b : ∀ w ∈ Jvm.Cond.classLink "PaintBank" 186 "java/lang/IndexOutOfBoundsException" :: Jvm.Cond.initialized "java/lang/IndexOutOfBoundsException" :: vx_atS "PaintBank" 190 "java/lang/IndexOutOfBoundsException" ["java/lang/RuntimeException", "java/lang/Exception"], vx_ot w = true := by decide +kernel
set_option maxRecDepth 1000000 in
theorem md_th12 : mm_thr 88 15 186 2 := ⟨"no such byte of a report", ["java/lang/RuntimeException", "java/lang/Exception"], 359, 190, 40, by decide +kernel, Or.inr ⟨by decide +kernel, by decide +kernel, by decide +kernel⟩, by decide +kernel, by decide +kernel, fun w hw => (md_th12a w hw).imp (fun z => mm_wTg z.1 z.2) id, md_th12b, by decide +kernel, by decide +kernel, rfl⟩
set_option maxRecDepth 1000000 in
theorem md_th13a : ∀ w ∈ Jvm.Cond.classLink "PaintBank" 97 "java/lang/IllegalStateException" :: Jvm.Cond.initialized "java/lang/IllegalStateException" :: vx_atS "PaintBank" 101 "java/lang/IllegalStateException" ["java/lang/RuntimeException", "java/lang/Exception"], (w ∈ lw_tbl ∧ goodWord w = true) ∨ w ∈ md_gw := by decide +kernel
set_option maxRecDepth 1000000 in
theorem md_th13b : ∀ w ∈ Jvm.Cond.classLink "PaintBank" 97 "java/lang/IllegalStateException" :: Jvm.Cond.initialized "java/lang/IllegalStateException" :: vx_atS "PaintBank" 101 "java/lang/IllegalStateException" ["java/lang/RuntimeException", "java/lang/Exception"], vx_ot w = true := by decide +kernel
set_option maxRecDepth 1000000 in
theorem md_th13 : mm_thr 89 7 97 0 := ⟨"nothing was saved", ["java/lang/RuntimeException", "java/lang/Exception"], 372, 101, 41, by decide +kernel, Or.inr ⟨by decide +kernel, by decide +kernel, by decide +kernel⟩, by decide +kernel, by decide +kernel, fun w hw => (md_th13a w hw).imp (fun z => mm_wTg z.1 z.2) id, md_th13b, by decide +kernel, by decide +kernel, rfl⟩
theorem md_thok : ∀ q ∈ md_thl, mm_thr q.1 q.2.1 q.2.2.1 q.2.2.2 := List.forall_mem_cons.mpr ⟨md_th0, List.forall_mem_cons.mpr ⟨md_th1, List.forall_mem_cons.mpr ⟨md_th2, List.forall_mem_cons.mpr ⟨md_th3, List.forall_mem_cons.mpr ⟨md_th4, List.forall_mem_cons.mpr ⟨md_th5, List.forall_mem_cons.mpr ⟨md_th6, List.forall_mem_cons.mpr ⟨md_th7, List.forall_mem_cons.mpr ⟨md_th8, List.forall_mem_cons.mpr ⟨md_th9, List.forall_mem_cons.mpr ⟨md_th10, List.forall_mem_cons.mpr ⟨md_th11, List.forall_mem_cons.mpr ⟨md_th12, List.forall_mem_cons.mpr ⟨md_th13, fun _ h => nomatch h⟩⟩⟩⟩⟩⟩⟩⟩⟩⟩⟩⟩⟩⟩
theorem md_h0 : mm_hok 1 11 0 19 := ⟨[], ⟨0, 16, 19, 13⟩, [], "java/lang/IllegalStateException", rfl, by decide +kernel, by decide, rfl, mm_wmem 5 55 rfl rfl, by decide +kernel, fun z hz => by simp at hz⟩
theorem md_h1 : mm_hok 2 4 1 12 := ⟨[], ⟨0, 9, 12, 19⟩, [], "java/lang/IllegalArgumentException", rfl, by decide +kernel, by decide, rfl, mm_wmem 5 134 rfl rfl, by decide +kernel, fun z hz => by simp at hz⟩
theorem md_h2 : mm_hok 3 3 1 11 := ⟨[], ⟨0, 8, 11, 19⟩, [], "java/lang/IllegalArgumentException", rfl, by decide +kernel, by decide, rfl, mm_wmem 5 134 rfl rfl, by decide +kernel, fun z hz => by simp at hz⟩
theorem md_h3 : mm_hok 4 3 1 11 := ⟨[], ⟨0, 8, 11, 19⟩, [], "java/lang/IllegalArgumentException", rfl, by decide +kernel, by decide, rfl, mm_wmem 5 134 rfl rfl, by decide +kernel, fun z hz => by simp at hz⟩
theorem md_h4 : mm_hok 5 4 1 12 := ⟨[], ⟨0, 9, 12, 19⟩, [], "java/lang/IllegalArgumentException", rfl, by decide +kernel, by decide, rfl, mm_wmem 5 134 rfl rfl, by decide +kernel, fun z hz => by simp at hz⟩
theorem md_h5 : mm_hok 6 4 2 12 := ⟨[], ⟨0, 9, 12, 34⟩, [], "java/lang/IndexOutOfBoundsException", rfl, by decide +kernel, by decide, rfl, mm_wmem 6 125 rfl rfl, by decide +kernel, fun z hz => by simp at hz⟩
theorem md_h6 : mm_hok 7 4 2 12 := ⟨[], ⟨0, 9, 12, 34⟩, [], "java/lang/IndexOutOfBoundsException", rfl, by decide +kernel, by decide, rfl, mm_wmem 6 125 rfl rfl, by decide +kernel, fun z hz => by simp at hz⟩
theorem md_h7 : mm_hok 8 4 2 12 := ⟨[], ⟨0, 9, 12, 34⟩, [], "java/lang/IndexOutOfBoundsException", rfl, by decide +kernel, by decide, rfl, mm_wmem 6 125 rfl rfl, by decide +kernel, fun z hz => by simp at hz⟩
theorem md_h8 : mm_hok 9 4 2 12 := ⟨[], ⟨0, 9, 12, 34⟩, [], "java/lang/IndexOutOfBoundsException", rfl, by decide +kernel, by decide, rfl, mm_wmem 6 125 rfl rfl, by decide +kernel, fun z hz => by simp at hz⟩
theorem md_h9 : mm_hok 10 4 2 12 := ⟨[], ⟨0, 9, 12, 34⟩, [], "java/lang/IndexOutOfBoundsException", rfl, by decide +kernel, by decide, rfl, mm_wmem 6 125 rfl rfl, by decide +kernel, fun z hz => by simp at hz⟩
theorem md_h10 : mm_hok 11 4 2 12 := ⟨[], ⟨0, 9, 12, 34⟩, [], "java/lang/IndexOutOfBoundsException", rfl, by decide +kernel, by decide, rfl, mm_wmem 6 125 rfl rfl, by decide +kernel, fun z hz => by simp at hz⟩
theorem md_h11 : mm_hok 12 4 2 12 := ⟨[], ⟨0, 9, 12, 34⟩, [], "java/lang/IndexOutOfBoundsException", rfl, by decide +kernel, by decide, rfl, mm_wmem 6 125 rfl rfl, by decide +kernel, fun z hz => by simp at hz⟩
theorem md_h12 : mm_hok 13 5 2 13 := ⟨[], ⟨0, 10, 13, 34⟩, [], "java/lang/IndexOutOfBoundsException", rfl, by decide +kernel, by decide, rfl, mm_wmem 6 125 rfl rfl, by decide +kernel, fun z hz => by simp at hz⟩
theorem md_h13 : mm_hok 14 4 0 15 := ⟨[⟨0, 9, 12, 34⟩], ⟨0, 9, 15, 13⟩, [], "java/lang/IllegalStateException", rfl, by decide +kernel, by decide, rfl, mm_wmem 5 55 rfl rfl, by decide +kernel, fun z hz => by
    have hz2 := List.mem_singleton.mp hz
    subst hz2
    exact Or.inr ⟨by decide, "java/lang/IndexOutOfBoundsException", mm_wmem 6 125 rfl rfl, by decide +kernel⟩⟩
theorem md_h14 : mm_hok 14 4 2 12 := ⟨[], ⟨0, 9, 12, 34⟩, [⟨0, 9, 15, 13⟩], "java/lang/IndexOutOfBoundsException", rfl, by decide +kernel, by decide, rfl, mm_wmem 6 125 rfl rfl, by decide +kernel, fun z hz => by simp at hz⟩
theorem md_h15 : mm_hok 15 4 2 19 := ⟨[], ⟨0, 16, 19, 34⟩, [], "java/lang/IndexOutOfBoundsException", rfl, by decide +kernel, by decide, rfl, mm_wmem 6 125 rfl rfl, by decide +kernel, fun z hz => by simp at hz⟩
theorem md_h16 : mm_hok 16 4 2 12 := ⟨[], ⟨0, 9, 12, 34⟩, [], "java/lang/IndexOutOfBoundsException", rfl, by decide +kernel, by decide, rfl, mm_wmem 6 125 rfl rfl, by decide +kernel, fun z hz => by simp at hz⟩
theorem md_h17 : mm_hok 17 4 2 12 := ⟨[], ⟨0, 9, 12, 34⟩, [], "java/lang/IndexOutOfBoundsException", rfl, by decide +kernel, by decide, rfl, mm_wmem 6 125 rfl rfl, by decide +kernel, fun z hz => by simp at hz⟩
theorem md_h18 : mm_hok 18 4 2 12 := ⟨[], ⟨0, 9, 12, 34⟩, [], "java/lang/IndexOutOfBoundsException", rfl, by decide +kernel, by decide, rfl, mm_wmem 6 125 rfl rfl, by decide +kernel, fun z hz => by simp at hz⟩
theorem md_h19 : mm_hok 19 4 1 12 := ⟨[], ⟨0, 9, 12, 19⟩, [], "java/lang/IllegalArgumentException", rfl, by decide +kernel, by decide, rfl, mm_wmem 5 134 rfl rfl, by decide +kernel, fun z hz => by simp at hz⟩
theorem md_h20 : mm_hok 20 4 1 12 := ⟨[], ⟨0, 9, 12, 19⟩, [], "java/lang/IllegalArgumentException", rfl, by decide +kernel, by decide, rfl, mm_wmem 5 134 rfl rfl, by decide +kernel, fun z hz => by simp at hz⟩
theorem md_h21 : mm_hok 21 4 2 12 := ⟨[], ⟨0, 9, 12, 34⟩, [], "java/lang/IndexOutOfBoundsException", rfl, by decide +kernel, by decide, rfl, mm_wmem 6 125 rfl rfl, by decide +kernel, fun z hz => by simp at hz⟩
theorem md_h22 : mm_hok 22 4 2 12 := ⟨[], ⟨0, 9, 12, 34⟩, [], "java/lang/IndexOutOfBoundsException", rfl, by decide +kernel, by decide, rfl, mm_wmem 6 125 rfl rfl, by decide +kernel, fun z hz => by simp at hz⟩
theorem md_h23 : mm_hok 23 5 1 17 := ⟨[⟨0, 10, 13, 34⟩], ⟨0, 10, 17, 19⟩, [], "java/lang/IllegalArgumentException", rfl, by decide +kernel, by decide, rfl, mm_wmem 5 134 rfl rfl, by decide +kernel, fun z hz => by
    have hz2 := List.mem_singleton.mp hz
    subst hz2
    exact Or.inr ⟨by decide, "java/lang/IndexOutOfBoundsException", mm_wmem 6 125 rfl rfl, by decide +kernel⟩⟩
theorem md_h24 : mm_hok 23 5 2 13 := ⟨[], ⟨0, 10, 13, 34⟩, [⟨0, 10, 17, 19⟩], "java/lang/IndexOutOfBoundsException", rfl, by decide +kernel, by decide, rfl, mm_wmem 6 125 rfl rfl, by decide +kernel, fun z hz => by simp at hz⟩
theorem md_h25 : mm_hok 24 4 2 12 := ⟨[], ⟨0, 9, 12, 34⟩, [], "java/lang/IndexOutOfBoundsException", rfl, by decide +kernel, by decide, rfl, mm_wmem 6 125 rfl rfl, by decide +kernel, fun z hz => by simp at hz⟩
theorem md_h26 : mm_hok 25 3 0 11 := ⟨[], ⟨0, 8, 11, 13⟩, [], "java/lang/IllegalStateException", rfl, by decide +kernel, by decide, rfl, mm_wmem 5 55 rfl rfl, by decide +kernel, fun z hz => by simp at hz⟩
theorem md_hok0 : ∀ q ∈ md_hdL, mm_hok q.1 q.2.1 q.2.2.1 q.2.2.2 := List.forall_mem_cons.mpr ⟨md_h0, List.forall_mem_cons.mpr ⟨md_h1, List.forall_mem_cons.mpr ⟨md_h2, List.forall_mem_cons.mpr ⟨md_h3, List.forall_mem_cons.mpr ⟨md_h4, List.forall_mem_cons.mpr ⟨md_h5, List.forall_mem_cons.mpr ⟨md_h6, List.forall_mem_cons.mpr ⟨md_h7, List.forall_mem_cons.mpr ⟨md_h8, List.forall_mem_cons.mpr ⟨md_h9, List.forall_mem_cons.mpr ⟨md_h10, List.forall_mem_cons.mpr ⟨md_h11, List.forall_mem_cons.mpr ⟨md_h12, List.forall_mem_cons.mpr ⟨md_h13, List.forall_mem_cons.mpr ⟨md_h14, List.forall_mem_cons.mpr ⟨md_h15, List.forall_mem_cons.mpr ⟨md_h16, List.forall_mem_cons.mpr ⟨md_h17, List.forall_mem_cons.mpr ⟨md_h18, List.forall_mem_cons.mpr ⟨md_h19, List.forall_mem_cons.mpr ⟨md_h20, List.forall_mem_cons.mpr ⟨md_h21, List.forall_mem_cons.mpr ⟨md_h22, List.forall_mem_cons.mpr ⟨md_h23, List.forall_mem_cons.mpr ⟨md_h24, List.forall_mem_cons.mpr ⟨md_h25, List.forall_mem_cons.mpr ⟨md_h26, fun _ h => nomatch h⟩⟩⟩⟩⟩⟩⟩⟩⟩⟩⟩⟩⟩⟩⟩⟩⟩⟩⟩⟩⟩⟩⟩⟩⟩⟩⟩
