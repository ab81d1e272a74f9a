/-! ===== the listing holds, put together ===== -/
theorem md_k0 : mm_chkM 0 md_L0 = true := by
  have h : md_L0 = ((md_L0.drop 0).take 10) ++ (((md_L0.drop 10).take 10) ++ (((md_L0.drop 20).take 10))) := by rfl
  rw [h]
  simp only [mm_chkM, List.all_append, Bool.and_eq_true]
  exact ⟨md_k0_0, md_k0_1, md_k0_2⟩
theorem md_ka0 : mm_chkAll 0 md_LC0 := ⟨md_k0, md_k1, md_k2, md_k3, md_k4, md_k5, md_k6, md_k7, md_k8, md_k9, md_k10, md_k11, md_k12, md_k13, md_k14, md_k15, trivial⟩
theorem md_ka1 : mm_chkAll 16 md_LC1 := ⟨md_k16, md_k17, md_k18, md_k19, md_k20, md_k21, md_k22, md_k23, md_k24, md_k25, md_k26, md_k27, md_k28, md_k29, md_k30, md_k31, trivial⟩
theorem md_ka2 : mm_chkAll 32 md_LC2 := ⟨md_k32, md_k33, md_k34, md_k35, md_k36, md_k37, md_k38, md_k39, md_k40, md_k41, md_k42, md_k43, md_k44, md_k45, md_k46, md_k47, trivial⟩
theorem md_ka3 : mm_chkAll 48 md_LC3 := ⟨md_k48, md_k49, md_k50, md_k51, md_k52, md_k53, md_k54, md_k55, md_k56, md_k57, md_k58, md_k59, md_k60, md_k61, md_k62, md_k63, trivial⟩
theorem md_ka4 : mm_chkAll 64 md_LC4 := ⟨md_k64, md_k65, md_k66, md_k67, md_k68, md_k69, md_k70, md_k71, md_k72, md_k73, md_k74, md_k75, md_k76, md_k77, md_k78, md_k79, trivial⟩
theorem md_ka5 : mm_chkAll 80 md_LC5 := ⟨md_k80, md_k81, md_k82, md_k83, md_k84, md_k85, md_k86, md_k87, md_k88, md_k89, md_k90, md_k91, md_k92, md_k93, md_k94, md_k95, trivial⟩
theorem md_ka6 : mm_chkAll 96 md_LC6 := ⟨md_k96, md_k97, md_k98, md_k99, md_k100, md_k101, md_k102, md_k103, md_k104, md_k105, md_k106, md_k107, md_k108, md_k109, md_k110, md_k111, trivial⟩
theorem md_ka7 : mm_chkAll 112 md_LC7 := ⟨md_k112, md_k113, md_k114, md_k115, md_k116, md_k117, md_k118, md_k119, md_k120, md_k121, md_k122, md_k123, md_k124, md_k125, md_k126, md_k127, trivial⟩
theorem md_ka8 : mm_chkAll 128 md_LC8 := ⟨md_k128, md_k129, md_k130, md_k131, md_k132, md_k133, md_k134, md_k135, md_k136, md_k137, md_k138, md_k139, md_k140, md_k141, md_k142, md_k143, trivial⟩
theorem md_ka9 : mm_chkAll 144 md_LC9 := ⟨md_k144, md_k145, md_k146, md_k147, md_k148, md_k149, md_k150, md_k151, md_k152, md_k153, md_k154, md_k155, md_k156, md_k157, md_k158, md_k159, trivial⟩
theorem md_ka10 : mm_chkAll 160 md_LC10 := ⟨md_k160, md_k161, md_k162, md_k163, md_k164, md_k165, md_k166, md_k167, md_k168, md_k169, md_k170, md_k171, md_k172, md_k173, md_k174, md_k175, trivial⟩
theorem md_ka11 : mm_chkAll 176 md_LC11 := ⟨md_k176, md_k177, md_k178, md_k179, md_k180, md_k181, md_k182, md_k183, md_k184, md_k185, md_k186, md_k187, md_k188, md_k189, md_k190, md_k191, trivial⟩
theorem md_ka12 : mm_chkAll 192 md_LC12 := ⟨md_k192, md_k193, trivial⟩
theorem md_kb : ∀ (a : Nat) (c : List (List (List mm_Ln))), md_LL[a]? = some c → mm_chkAll (16 * a) c := by
  intro a c h
  match a, h with
  | 0, h => cases h; exact md_ka0
  | 1, h => cases h; exact md_ka1
  | 2, h => cases h; exact md_ka2
  | 3, h => cases h; exact md_ka3
  | 4, h => cases h; exact md_ka4
  | 5, h => cases h; exact md_ka5
  | 6, h => cases h; exact md_ka6
  | 7, h => cases h; exact md_ka7
  | 8, h => cases h; exact md_ka8
  | 9, h => cases h; exact md_ka9
  | 10, h => cases h; exact md_ka10
  | 11, h => cases h; exact md_ka11
  | 12, h => cases h; exact md_ka12
  | n + 13, h => simp [md_LL] at h
theorem md_c1 : mm_cal 1 3 := ⟨mm_wmem 6 19 rfl rfl, by decide +kernel, by decide +kernel, by decide +kernel, by decide +kernel⟩
theorem md_c2 : mm_cal 2 2 := ⟨mm_wmem 6 22 rfl rfl, by decide +kernel, by decide +kernel, by decide +kernel, by decide +kernel⟩
theorem md_c3 : mm_cal 3 2 := ⟨mm_wmem 8 21 rfl rfl, by decide +kernel, by decide +kernel, by decide +kernel, by decide +kernel⟩
theorem md_c4 : mm_cal 4 2 := ⟨mm_wmem 8 73 rfl rfl, by decide +kernel, by decide +kernel, by decide +kernel, by decide +kernel⟩
theorem md_c5 : mm_cal 5 2 := ⟨mm_wmem 8 84 rfl rfl, by decide +kernel, by decide +kernel, by decide +kernel, by decide +kernel⟩
theorem md_c6 : mm_cal 6 1 := ⟨mm_wmem 8 98 rfl rfl, by decide +kernel, by decide +kernel, by decide +kernel, by decide +kernel⟩
theorem md_c7 : mm_cal 7 1 := ⟨mm_wmem 8 105 rfl rfl, by decide +kernel, by decide +kernel, by decide +kernel, by decide +kernel⟩
theorem md_c8 : mm_cal 8 0 := ⟨mm_wmem 1 46 rfl rfl, by decide +kernel, by decide +kernel, by decide +kernel, by decide +kernel⟩
theorem md_c9 : mm_cal 9 0 := ⟨mm_wmem 3 31 rfl rfl, by decide +kernel, by decide +kernel, by decide +kernel, by decide +kernel⟩
theorem md_c10 : mm_cal 10 1 := ⟨mm_wmem 3 234 rfl rfl, by decide +kernel, by decide +kernel, by decide +kernel, by decide +kernel⟩
theorem md_c11 : mm_cal 11 1 := ⟨mm_wmem 3 238 rfl rfl, by decide +kernel, by decide +kernel, by decide +kernel, by decide +kernel⟩
theorem md_c12 : mm_cal 12 0 := ⟨mm_wmem 4 18 rfl rfl, by decide +kernel, by decide +kernel, by decide +kernel, by decide +kernel⟩
theorem md_c13 : mm_cal 13 0 := ⟨mm_wmem 4 26 rfl rfl, by decide +kernel, by decide +kernel, by decide +kernel, by decide +kernel⟩
theorem md_c14 : mm_cal 14 0 := ⟨mm_wmem 4 30 rfl rfl, by decide +kernel, by decide +kernel, by decide +kernel, by decide +kernel⟩
theorem md_c15 : mm_cal 15 0 := ⟨mm_wmem 4 38 rfl rfl, by decide +kernel, by decide +kernel, by decide +kernel, by decide +kernel⟩
theorem md_c16 : mm_cal 16 0 := ⟨mm_wmem 4 42 rfl rfl, by decide +kernel, by decide +kernel, by decide +kernel, by decide +kernel⟩
theorem md_c17 : mm_cal 17 0 := ⟨mm_wmem 4 46 rfl rfl, by decide +kernel, by decide +kernel, by decide +kernel, by decide +kernel⟩
theorem md_c18 : mm_cal 18 0 := ⟨mm_wmem 4 50 rfl rfl, by decide +kernel, by decide +kernel, by decide +kernel, by decide +kernel⟩
theorem md_c19 : mm_cal 19 0 := ⟨mm_wmem 4 54 rfl rfl, by decide +kernel, by decide +kernel, by decide +kernel, by decide +kernel⟩
theorem md_c20 : mm_cal 20 1 := ⟨mm_wmem 4 147 rfl rfl, by decide +kernel, by decide +kernel, by decide +kernel, by decide +kernel⟩
theorem md_c21 : mm_cal 21 0 := ⟨mm_wmem 4 158 rfl rfl, by decide +kernel, by decide +kernel, by decide +kernel, by decide +kernel⟩
theorem md_c22 : mm_cal 22 0 := ⟨mm_wmem 4 225 rfl rfl, by decide +kernel, by decide +kernel, by decide +kernel, by decide +kernel⟩
theorem md_c23 : mm_cal 23 0 := ⟨mm_wmem 5 35 rfl rfl, by decide +kernel, by decide +kernel, by decide +kernel, by decide +kernel⟩
theorem md_c24 : mm_cal 24 0 := ⟨mm_wmem 5 39 rfl rfl, by decide +kernel, by decide +kernel, by decide +kernel, by decide +kernel⟩
theorem md_c25 : mm_cal 25 0 := ⟨mm_wmem 5 52 rfl rfl, by decide +kernel, by decide +kernel, by decide +kernel, by decide +kernel⟩
theorem md_c26 : mm_cal 26 0 := ⟨mm_wmem 5 64 rfl rfl, by decide +kernel, by decide +kernel, by decide +kernel, by decide +kernel⟩
theorem md_c27 : mm_cal 27 0 := ⟨mm_wmem 5 72 rfl rfl, by decide +kernel, by decide +kernel, by decide +kernel, by decide +kernel⟩
theorem md_c28 : mm_cal 28 0 := ⟨mm_wmem 5 76 rfl rfl, by decide +kernel, by decide +kernel, by decide +kernel, by decide +kernel⟩
theorem md_c29 : mm_cal 29 5 := ⟨mm_wmem 8 41 rfl rfl, by decide +kernel, by decide +kernel, by decide +kernel, by decide +kernel⟩
theorem md_c30 : mm_cal 30 1 := ⟨mm_wmem 8 69 rfl rfl, by decide +kernel, by decide +kernel, by decide +kernel, by decide +kernel⟩
theorem md_c31 : mm_cal 31 1 := ⟨mm_wmem 8 77 rfl rfl, by decide +kernel, by decide +kernel, by decide +kernel, by decide +kernel⟩
theorem md_c32 : mm_cal 32 1 := ⟨mm_wmem 8 81 rfl rfl, by decide +kernel, by decide +kernel, by decide +kernel, by decide +kernel⟩
theorem md_c33 : mm_cal 33 1 := ⟨mm_wmem 8 90 rfl rfl, by decide +kernel, by decide +kernel, by decide +kernel, by decide +kernel⟩
theorem md_c34 : mm_cal 34 1 := ⟨mm_wmem 8 94 rfl rfl, by decide +kernel, by decide +kernel, by decide +kernel, by decide +kernel⟩
theorem md_c35 : mm_cal 35 1 := ⟨mm_wmem 8 102 rfl rfl, by decide +kernel, by decide +kernel, by decide +kernel, by decide +kernel⟩
theorem md_c36 : mm_cal 36 2 := ⟨mm_wmem 8 109 rfl rfl, by decide +kernel, by decide +kernel, by decide +kernel, by decide +kernel⟩
theorem md_c37 : mm_cal 37 1 := ⟨mm_wmem 3 57 rfl rfl, by decide +kernel, by decide +kernel, by decide +kernel, by decide +kernel⟩
theorem md_c38 : mm_cal 38 0 := ⟨mm_wmem 1 54 rfl rfl, by decide +kernel, by decide +kernel, by decide +kernel, by decide +kernel⟩
theorem md_c39 : mm_cal 39 0 := ⟨mm_wmem 3 40 rfl rfl, by decide +kernel, by decide +kernel, by decide +kernel, by decide +kernel⟩
theorem md_c40 : mm_cal 40 0 := ⟨mm_wmem 3 44 rfl rfl, by decide +kernel, by decide +kernel, by decide +kernel, by decide +kernel⟩
theorem md_c41 : mm_cal 41 1 := ⟨mm_wmem 3 47 rfl rfl, by decide +kernel, by decide +kernel, by decide +kernel, by decide +kernel⟩
theorem md_c42 : mm_cal 42 1 := ⟨mm_wmem 3 50 rfl rfl, by decide +kernel, by decide +kernel, by decide +kernel, by decide +kernel⟩
theorem md_c43 : mm_cal 43 0 := ⟨mm_wmem 3 54 rfl rfl, by decide +kernel, by decide +kernel, by decide +kernel, by decide +kernel⟩
theorem md_c44 : mm_cal 44 1 := ⟨mm_wmem 3 63 rfl rfl, by decide +kernel, by decide +kernel, by decide +kernel, by decide +kernel⟩
theorem md_c45 : mm_cal 45 0 := ⟨mm_wmem 3 67 rfl rfl, by decide +kernel, by decide +kernel, by decide +kernel, by decide +kernel⟩
theorem md_c46 : mm_cal 46 1 := ⟨mm_wmem 3 70 rfl rfl, by decide +kernel, by decide +kernel, by decide +kernel, by decide +kernel⟩
theorem md_c47 : mm_cal 47 1 := ⟨mm_wmem 3 78 rfl rfl, by decide +kernel, by decide +kernel, by decide +kernel, by decide +kernel⟩
theorem md_c48 : mm_cal 48 1 := ⟨mm_wmem 3 95 rfl rfl, by decide +kernel, by decide +kernel, by decide +kernel, by decide +kernel⟩
theorem md_c49 : mm_cal 49 2 := ⟨mm_wmem 3 107 rfl rfl, by decide +kernel, by decide +kernel, by decide +kernel, by decide +kernel⟩
theorem md_c50 : mm_cal 50 1 := ⟨mm_wmem 3 123 rfl rfl, by decide +kernel, by decide +kernel, by decide +kernel, by decide +kernel⟩
theorem md_c51 : mm_cal 51 0 := ⟨mm_wmem 3 147 rfl rfl, by decide +kernel, by decide +kernel, by decide +kernel, by decide +kernel⟩
theorem md_c52 : mm_cal 52 1 := ⟨mm_wmem 8 61 rfl rfl, by decide +kernel, by decide +kernel, by decide +kernel, by decide +kernel⟩
theorem md_c53 : mm_cal 53 0 := ⟨mm_wmem 1 99 rfl rfl, by decide +kernel, by decide +kernel, by decide +kernel, by decide +kernel⟩
theorem md_c54 : mm_cal 54 0 := ⟨mm_wmem 1 104 rfl rfl, by decide +kernel, by decide +kernel, by decide +kernel, by decide +kernel⟩
theorem md_c55 : mm_cal 55 1 := ⟨mm_wmem 3 101 rfl rfl, by decide +kernel, by decide +kernel, by decide +kernel, by decide +kernel⟩
theorem md_c56 : mm_cal 56 1 := ⟨mm_wmem 3 218 rfl rfl, by decide +kernel, by decide +kernel, by decide +kernel, by decide +kernel⟩
theorem md_c57 : mm_cal 57 3 := ⟨mm_wmem 4 128 rfl rfl, by decide +kernel, by decide +kernel, by decide +kernel, by decide +kernel⟩
theorem md_c58 : mm_cal 58 2 := ⟨mm_wmem 4 132 rfl rfl, by decide +kernel, by decide +kernel, by decide +kernel, by decide +kernel⟩
theorem md_c59 : mm_cal 59 2 := ⟨mm_wmem 4 135 rfl rfl, by decide +kernel, by decide +kernel, by decide +kernel, by decide +kernel⟩
theorem md_c60 : mm_cal 60 1 := ⟨mm_wmem 4 180 rfl rfl, by decide +kernel, by decide +kernel, by decide +kernel, by decide +kernel⟩
theorem md_c61 : mm_cal 61 1 := ⟨mm_wmem 1 194 rfl rfl, by decide +kernel, by decide +kernel, by decide +kernel, by decide +kernel⟩
theorem md_c62 : mm_cal 62 0 := ⟨mm_wmem 3 35 rfl rfl, by decide +kernel, by decide +kernel, by decide +kernel, by decide +kernel⟩
theorem md_c63 : mm_cal 63 0 := ⟨mm_wmem 3 74 rfl rfl, by decide +kernel, by decide +kernel, by decide +kernel, by decide +kernel⟩
theorem md_c64 : mm_cal 64 0 := ⟨mm_wmem 3 90 rfl rfl, by decide +kernel, by decide +kernel, by decide +kernel, by decide +kernel⟩
theorem md_c65 : mm_cal 65 0 := ⟨mm_wmem 3 111 rfl rfl, by decide +kernel, by decide +kernel, by decide +kernel, by decide +kernel⟩
theorem md_c66 : mm_cal 66 0 := ⟨mm_wmem 3 115 rfl rfl, by decide +kernel, by decide +kernel, by decide +kernel, by decide +kernel⟩
theorem md_c67 : mm_cal 67 0 := ⟨mm_wmem 3 127 rfl rfl, by decide +kernel, by decide +kernel, by decide +kernel, by decide +kernel⟩
theorem md_c68 : mm_cal 68 0 := ⟨mm_wmem 3 131 rfl rfl, by decide +kernel, by decide +kernel, by decide +kernel, by decide +kernel⟩
theorem md_c69 : mm_cal 69 0 := ⟨mm_wmem 3 137 rfl rfl, by decide +kernel, by decide +kernel, by decide +kernel, by decide +kernel⟩
theorem md_c70 : mm_cal 70 0 := ⟨mm_wmem 3 143 rfl rfl, by decide +kernel, by decide +kernel, by decide +kernel, by decide +kernel⟩
theorem md_c71 : mm_cal 71 1 := ⟨mm_wmem 1 222 rfl rfl, by decide +kernel, by decide +kernel, by decide +kernel, by decide +kernel⟩
theorem md_c72 : mm_cal 72 0 := ⟨mm_wmem 3 225 rfl rfl, by decide +kernel, by decide +kernel, by decide +kernel, by decide +kernel⟩
theorem md_c73 : mm_cal 73 0 := ⟨mm_wmem 4 22 rfl rfl, by decide +kernel, by decide +kernel, by decide +kernel, by decide +kernel⟩
theorem md_c74 : mm_cal 74 1 := ⟨mm_wmem 4 62 rfl rfl, by decide +kernel, by decide +kernel, by decide +kernel, by decide +kernel⟩
theorem md_c75 : mm_cal 75 0 := ⟨mm_wmem 4 71 rfl rfl, by decide +kernel, by decide +kernel, by decide +kernel, by decide +kernel⟩
theorem md_c76 : mm_cal 76 0 := ⟨mm_wmem 4 75 rfl rfl, by decide +kernel, by decide +kernel, by decide +kernel, by decide +kernel⟩
theorem md_c77 : mm_cal 77 1 := ⟨mm_wmem 4 80 rfl rfl, by decide +kernel, by decide +kernel, by decide +kernel, by decide +kernel⟩
theorem md_c78 : mm_cal 78 1 := ⟨mm_wmem 4 84 rfl rfl, by decide +kernel, by decide +kernel, by decide +kernel, by decide +kernel⟩
theorem md_c79 : mm_cal 79 1 := ⟨mm_wmem 4 92 rfl rfl, by decide +kernel, by decide +kernel, by decide +kernel, by decide +kernel⟩
theorem md_c80 : mm_cal 80 1 := ⟨mm_wmem 4 96 rfl rfl, by decide +kernel, by decide +kernel, by decide +kernel, by decide +kernel⟩
theorem md_c81 : mm_cal 81 1 := ⟨mm_wmem 4 108 rfl rfl, by decide +kernel, by decide +kernel, by decide +kernel, by decide +kernel⟩
theorem md_c82 : mm_cal 82 0 := ⟨mm_wmem 4 112 rfl rfl, by decide +kernel, by decide +kernel, by decide +kernel, by decide +kernel⟩
theorem md_c83 : mm_cal 83 1 := ⟨mm_wmem 4 116 rfl rfl, by decide +kernel, by decide +kernel, by decide +kernel, by decide +kernel⟩
theorem md_c84 : mm_cal 84 1 := ⟨mm_wmem 4 120 rfl rfl, by decide +kernel, by decide +kernel, by decide +kernel, by decide +kernel⟩
theorem md_c85 : mm_cal 85 2 := ⟨mm_wmem 4 124 rfl rfl, by decide +kernel, by decide +kernel, by decide +kernel, by decide +kernel⟩
theorem md_c86 : mm_cal 86 3 := ⟨mm_wmem 4 139 rfl rfl, by decide +kernel, by decide +kernel, by decide +kernel, by decide +kernel⟩
theorem md_c87 : mm_cal 87 0 := ⟨mm_wmem 4 143 rfl rfl, by decide +kernel, by decide +kernel, by decide +kernel, by decide +kernel⟩
theorem md_c88 : mm_cal 88 2 := ⟨mm_wmem 4 221 rfl rfl, by decide +kernel, by decide +kernel, by decide +kernel, by decide +kernel⟩
theorem md_c89 : mm_cal 89 0 := ⟨mm_wmem 4 233 rfl rfl, by decide +kernel, by decide +kernel, by decide +kernel, by decide +kernel⟩
theorem md_c90 : mm_cal 90 0 := ⟨mm_wmem 5 43 rfl rfl, by decide +kernel, by decide +kernel, by decide +kernel, by decide +kernel⟩
theorem md_c91 : mm_cal 91 1 := ⟨mm_wmem 5 47 rfl rfl, by decide +kernel, by decide +kernel, by decide +kernel, by decide +kernel⟩
theorem md_c92 : mm_cal 92 0 := ⟨mm_wmem 5 56 rfl rfl, by decide +kernel, by decide +kernel, by decide +kernel, by decide +kernel⟩
theorem md_c93 : mm_cal 93 0 := ⟨mm_wmem 5 68 rfl rfl, by decide +kernel, by decide +kernel, by decide +kernel, by decide +kernel⟩
theorem md_c94 : mm_cal 94 0 := ⟨mm_wmem 1 229 rfl rfl, by decide +kernel, by decide +kernel, by decide +kernel, by decide +kernel⟩
theorem md_c95 : mm_cal 95 1 := ⟨mm_wmem 4 34 rfl rfl, by decide +kernel, by decide +kernel, by decide +kernel, by decide +kernel⟩
theorem md_c96 : mm_cal 96 1 := ⟨mm_wmem 4 66 rfl rfl, by decide +kernel, by decide +kernel, by decide +kernel, by decide +kernel⟩
theorem md_c97 : mm_cal 97 0 := ⟨mm_wmem 4 88 rfl rfl, by decide +kernel, by decide +kernel, by decide +kernel, by decide +kernel⟩
theorem md_c98 : mm_cal 98 0 := ⟨mm_wmem 4 100 rfl rfl, by decide +kernel, by decide +kernel, by decide +kernel, by decide +kernel⟩
theorem md_c99 : mm_cal 99 1 := ⟨mm_wmem 4 104 rfl rfl, by decide +kernel, by decide +kernel, by decide +kernel, by decide +kernel⟩
theorem md_c100 : mm_cal 100 1 := ⟨mm_wmem 5 60 rfl rfl, by decide +kernel, by decide +kernel, by decide +kernel, by decide +kernel⟩
theorem md_c101 : mm_cal 101 2 := ⟨mm_wmem 2 77 rfl rfl, by decide +kernel, by decide +kernel, by decide +kernel, by decide +kernel⟩
theorem md_c102 : mm_cal 102 0 := ⟨mm_wmem 4 229 rfl rfl, by decide +kernel, by decide +kernel, by decide +kernel, by decide +kernel⟩
theorem md_c103 : mm_cal 103 0 := ⟨mm_wmem 4 237 rfl rfl, by decide +kernel, by decide +kernel, by decide +kernel, by decide +kernel⟩
theorem md_c104 : mm_cal 104 1 := ⟨mm_wmem 5 1 rfl rfl, by decide +kernel, by decide +kernel, by decide +kernel, by decide +kernel⟩
theorem md_c105 : mm_cal 105 4 := ⟨mm_wmem 5 6 rfl rfl, by decide +kernel, by decide +kernel, by decide +kernel, by decide +kernel⟩
theorem md_c106 : mm_cal 106 3 := ⟨mm_wmem 5 10 rfl rfl, by decide +kernel, by decide +kernel, by decide +kernel, by decide +kernel⟩
theorem md_c107 : mm_cal 107 5 := ⟨mm_wmem 5 18 rfl rfl, by decide +kernel, by decide +kernel, by decide +kernel, by decide +kernel⟩
theorem md_c108 : mm_cal 108 2 := ⟨mm_wmem 5 23 rfl rfl, by decide +kernel, by decide +kernel, by decide +kernel, by decide +kernel⟩
theorem md_c109 : mm_cal 109 0 := ⟨mm_wmem 5 30 rfl rfl, by decide +kernel, by decide +kernel, by decide +kernel, by decide +kernel⟩
theorem md_c110 : mm_cal 110 2 := ⟨mm_wmem 2 127 rfl rfl, by decide +kernel, by decide +kernel, by decide +kernel, by decide +kernel⟩
theorem md_c111 : mm_cal 111 0 := ⟨mm_wmem 4 162 rfl rfl, by decide +kernel, by decide +kernel, by decide +kernel, by decide +kernel⟩
theorem md_c112 : mm_cal 112 0 := ⟨mm_wmem 4 168 rfl rfl, by decide +kernel, by decide +kernel, by decide +kernel, by decide +kernel⟩
theorem md_c113 : mm_cal 113 2 := ⟨mm_wmem 4 175 rfl rfl, by decide +kernel, by decide +kernel, by decide +kernel, by decide +kernel⟩
theorem md_c114 : mm_cal 114 2 := ⟨mm_wmem 4 184 rfl rfl, by decide +kernel, by decide +kernel, by decide +kernel, by decide +kernel⟩
theorem md_c115 : mm_cal 115 3 := ⟨mm_wmem 4 188 rfl rfl, by decide +kernel, by decide +kernel, by decide +kernel, by decide +kernel⟩
theorem md_c116 : mm_cal 116 2 := ⟨mm_wmem 4 200 rfl rfl, by decide +kernel, by decide +kernel, by decide +kernel, by decide +kernel⟩
theorem md_c117 : mm_cal 117 1 := ⟨mm_wmem 4 203 rfl rfl, by decide +kernel, by decide +kernel, by decide +kernel, by decide +kernel⟩
theorem md_c118 : mm_cal 118 0 := ⟨mm_wmem 4 207 rfl rfl, by decide +kernel, by decide +kernel, by decide +kernel, by decide +kernel⟩
theorem md_c119 : mm_cal 119 3 := ⟨mm_wmem 4 211 rfl rfl, by decide +kernel, by decide +kernel, by decide +kernel, by decide +kernel⟩
theorem md_c120 : mm_cal 120 0 := ⟨mm_wmem 4 216 rfl rfl, by decide +kernel, by decide +kernel, by decide +kernel, by decide +kernel⟩
theorem md_c121 : mm_cal 121 4 := ⟨mm_wmem 2 161 rfl rfl, by decide +kernel, by decide +kernel, by decide +kernel, by decide +kernel⟩
theorem md_c122 : mm_cal 122 1 := ⟨mm_wmem 2 201 rfl rfl, by decide +kernel, by decide +kernel, by decide +kernel, by decide +kernel⟩
theorem md_c123 : mm_cal 123 0 := ⟨mm_wmem 3 230 rfl rfl, by decide +kernel, by decide +kernel, by decide +kernel, by decide +kernel⟩
theorem md_c124 : mm_cal 124 1 := ⟨mm_wmem 4 58 rfl rfl, by decide +kernel, by decide +kernel, by decide +kernel, by decide +kernel⟩
theorem md_c125 : mm_cal 125 0 := ⟨mm_wmem 4 151 rfl rfl, by decide +kernel, by decide +kernel, by decide +kernel, by decide +kernel⟩
theorem md_c126 : mm_cal 126 0 := ⟨mm_wmem 2 220 rfl rfl, by decide +kernel, by decide +kernel, by decide +kernel, by decide +kernel⟩
theorem md_c127 : mm_cal 127 1 := ⟨mm_wmem 5 80 rfl rfl, by decide +kernel, by decide +kernel, by decide +kernel, by decide +kernel⟩
theorem md_c128 : mm_cal 128 0 := ⟨mm_wmem 5 85 rfl rfl, by decide +kernel, by decide +kernel, by decide +kernel, by decide +kernel⟩
theorem md_c129 : mm_cal 129 1 := ⟨mm_wmem 6 16 rfl rfl, by decide +kernel, by decide +kernel, by decide +kernel, by decide +kernel⟩
theorem md_c130 : mm_cal 130 1 := ⟨mm_wmem 7 11 rfl rfl, by decide +kernel, by decide +kernel, by decide +kernel, by decide +kernel⟩
theorem md_c131 : mm_cal 131 1 := ⟨mm_wmem 7 218 rfl rfl, by decide +kernel, by decide +kernel, by decide +kernel, by decide +kernel⟩
theorem md_c132 : mm_cal 132 2 := ⟨mm_wmem 5 13 rfl rfl, by decide +kernel, by decide +kernel, by decide +kernel, by decide +kernel⟩
theorem md_c133 : mm_cal 133 2 := ⟨mm_wmem 4 154 rfl rfl, by decide +kernel, by decide +kernel, by decide +kernel, by decide +kernel⟩
theorem md_c134 : mm_cal 134 1 := ⟨mm_wmem 4 197 rfl rfl, by decide +kernel, by decide +kernel, by decide +kernel, by decide +kernel⟩
theorem md_c135 : mm_cal 135 2 := ⟨mm_wmem 4 171 rfl rfl, by decide +kernel, by decide +kernel, by decide +kernel, by decide +kernel⟩
theorem md_c136 : mm_cal 136 1 := ⟨mm_wmem 4 191 rfl rfl, by decide +kernel, by decide +kernel, by decide +kernel, by decide +kernel⟩
theorem md_c137 : mm_cal 137 0 := ⟨mm_wmem 3 86 rfl rfl, by decide +kernel, by decide +kernel, by decide +kernel, by decide +kernel⟩
theorem md_c138 : mm_cal 138 0 := ⟨mm_wmem 5 91 rfl rfl, by decide +kernel, by decide +kernel, by decide +kernel, by decide +kernel⟩
theorem md_c139 : mm_cal 139 0 := ⟨mm_wmem 5 94 rfl rfl, by decide +kernel, by decide +kernel, by decide +kernel, by decide +kernel⟩
theorem md_c140 : mm_cal 140 0 := ⟨mm_wmem 5 97 rfl rfl, by decide +kernel, by decide +kernel, by decide +kernel, by decide +kernel⟩
theorem md_c141 : mm_cal 141 0 := ⟨mm_wmem 5 119 rfl rfl, by decide +kernel, by decide +kernel, by decide +kernel, by decide +kernel⟩
theorem md_c142 : mm_cal 142 0 := ⟨mm_wmem 5 122 rfl rfl, by decide +kernel, by decide +kernel, by decide +kernel, by decide +kernel⟩
theorem md_c143 : mm_cal 143 0 := ⟨mm_wmem 5 226 rfl rfl, by decide +kernel, by decide +kernel, by decide +kernel, by decide +kernel⟩
theorem md_c144 : mm_cal 144 1 := ⟨mm_wmem 5 229 rfl rfl, by decide +kernel, by decide +kernel, by decide +kernel, by decide +kernel⟩
theorem md_c145 : mm_cal 145 1 := ⟨mm_wmem 6 27 rfl rfl, by decide +kernel, by decide +kernel, by decide +kernel, by decide +kernel⟩
theorem md_c146 : mm_cal 146 1 := ⟨mm_wmem 6 54 rfl rfl, by decide +kernel, by decide +kernel, by decide +kernel, by decide +kernel⟩
theorem md_c147 : mm_cal 147 3 := ⟨mm_wmem 6 58 rfl rfl, by decide +kernel, by decide +kernel, by decide +kernel, by decide +kernel⟩
theorem md_c148 : mm_cal 148 0 := ⟨mm_wmem 6 62 rfl rfl, by decide +kernel, by decide +kernel, by decide +kernel, by decide +kernel⟩
theorem md_c149 : mm_cal 149 1 := ⟨mm_wmem 6 66 rfl rfl, by decide +kernel, by decide +kernel, by decide +kernel, by decide +kernel⟩
theorem md_c150 : mm_cal 150 1 := ⟨mm_wmem 7 106 rfl rfl, by decide +kernel, by decide +kernel, by decide +kernel, by decide +kernel⟩
theorem md_c151 : mm_cal 151 2 := ⟨mm_wmem 7 109 rfl rfl, by decide +kernel, by decide +kernel, by decide +kernel, by decide +kernel⟩
theorem md_c152 : mm_cal 152 1 := ⟨mm_wmem 7 114 rfl rfl, by decide +kernel, by decide +kernel, by decide +kernel, by decide +kernel⟩
theorem md_c153 : mm_cal 153 0 := ⟨mm_wmem 7 230 rfl rfl, by decide +kernel, by decide +kernel, by decide +kernel, by decide +kernel⟩
theorem md_c154 : mm_cal 154 3 := ⟨mm_wmem 6 69 rfl rfl, by decide +kernel, by decide +kernel, by decide +kernel, by decide +kernel⟩
theorem md_c155 : mm_cal 155 1 := ⟨mm_wmem 6 147 rfl rfl, by decide +kernel, by decide +kernel, by decide +kernel, by decide +kernel⟩
theorem md_c156 : mm_cal 156 1 := ⟨mm_wmem 6 150 rfl rfl, by decide +kernel, by decide +kernel, by decide +kernel, by decide +kernel⟩
theorem md_c157 : mm_cal 157 1 := ⟨mm_wmem 6 158 rfl rfl, by decide +kernel, by decide +kernel, by decide +kernel, by decide +kernel⟩
theorem md_c158 : mm_cal 158 1 := ⟨mm_wmem 6 162 rfl rfl, by decide +kernel, by decide +kernel, by decide +kernel, by decide +kernel⟩
theorem md_c159 : mm_cal 159 2 := ⟨mm_wmem 6 167 rfl rfl, by decide +kernel, by decide +kernel, by decide +kernel, by decide +kernel⟩
theorem md_c160 : mm_cal 160 0 := ⟨mm_wmem 6 179 rfl rfl, by decide +kernel, by decide +kernel, by decide +kernel, by decide +kernel⟩
theorem md_c161 : mm_cal 161 0 := ⟨mm_wmem 6 209 rfl rfl, by decide +kernel, by decide +kernel, by decide +kernel, by decide +kernel⟩
theorem md_c162 : mm_cal 162 0 := ⟨mm_wmem 6 213 rfl rfl, by decide +kernel, by decide +kernel, by decide +kernel, by decide +kernel⟩
theorem md_c163 : mm_cal 163 2 := ⟨mm_wmem 6 218 rfl rfl, by decide +kernel, by decide +kernel, by decide +kernel, by decide +kernel⟩
theorem md_c164 : mm_cal 164 1 := ⟨mm_wmem 6 222 rfl rfl, by decide +kernel, by decide +kernel, by decide +kernel, by decide +kernel⟩
theorem md_c165 : mm_cal 165 3 := ⟨mm_wmem 7 6 rfl rfl, by decide +kernel, by decide +kernel, by decide +kernel, by decide +kernel⟩
theorem md_c166 : mm_cal 166 1 := ⟨mm_wmem 7 16 rfl rfl, by decide +kernel, by decide +kernel, by decide +kernel, by decide +kernel⟩
theorem md_c167 : mm_cal 167 1 := ⟨mm_wmem 7 19 rfl rfl, by decide +kernel, by decide +kernel, by decide +kernel, by decide +kernel⟩
theorem md_c168 : mm_cal 168 1 := ⟨mm_wmem 7 22 rfl rfl, by decide +kernel, by decide +kernel, by decide +kernel, by decide +kernel⟩
theorem md_c169 : mm_cal 169 0 := ⟨mm_wmem 7 38 rfl rfl, by decide +kernel, by decide +kernel, by decide +kernel, by decide +kernel⟩
theorem md_c170 : mm_cal 170 1 := ⟨mm_wmem 7 43 rfl rfl, by decide +kernel, by decide +kernel, by decide +kernel, by decide +kernel⟩
theorem md_c171 : mm_cal 171 2 := ⟨mm_wmem 7 46 rfl rfl, by decide +kernel, by decide +kernel, by decide +kernel, by decide +kernel⟩
theorem md_c172 : mm_cal 172 0 := ⟨mm_wmem 7 52 rfl rfl, by decide +kernel, by decide +kernel, by decide +kernel, by decide +kernel⟩
theorem md_c173 : mm_cal 173 0 := ⟨mm_wmem 7 58 rfl rfl, by decide +kernel, by decide +kernel, by decide +kernel, by decide +kernel⟩
theorem md_c174 : mm_cal 174 0 := ⟨mm_wmem 7 60 rfl rfl, by decide +kernel, by decide +kernel, by decide +kernel, by decide +kernel⟩
theorem md_c175 : mm_cal 175 3 := ⟨mm_wmem 7 64 rfl rfl, by decide +kernel, by decide +kernel, by decide +kernel, by decide +kernel⟩
theorem md_c176 : mm_cal 176 3 := ⟨mm_wmem 7 67 rfl rfl, by decide +kernel, by decide +kernel, by decide +kernel, by decide +kernel⟩
theorem md_c177 : mm_cal 177 2 := ⟨mm_wmem 7 70 rfl rfl, by decide +kernel, by decide +kernel, by decide +kernel, by decide +kernel⟩
theorem md_c178 : mm_cal 178 1 := ⟨mm_wmem 7 135 rfl rfl, by decide +kernel, by decide +kernel, by decide +kernel, by decide +kernel⟩
theorem md_c179 : mm_cal 179 1 := ⟨mm_wmem 7 138 rfl rfl, by decide +kernel, by decide +kernel, by decide +kernel, by decide +kernel⟩
theorem md_c180 : mm_cal 180 0 := ⟨mm_wmem 7 186 rfl rfl, by decide +kernel, by decide +kernel, by decide +kernel, by decide +kernel⟩
theorem md_c181 : mm_cal 181 1 := ⟨mm_wmem 7 189 rfl rfl, by decide +kernel, by decide +kernel, by decide +kernel, by decide +kernel⟩
theorem md_c182 : mm_cal 182 1 := ⟨mm_wmem 7 192 rfl rfl, by decide +kernel, by decide +kernel, by decide +kernel, by decide +kernel⟩
theorem md_c183 : mm_cal 183 3 := ⟨mm_wmem 7 196 rfl rfl, by decide +kernel, by decide +kernel, by decide +kernel, by decide +kernel⟩
theorem md_c184 : mm_cal 184 2 := ⟨mm_wmem 7 204 rfl rfl, by decide +kernel, by decide +kernel, by decide +kernel, by decide +kernel⟩
theorem md_c185 : mm_cal 185 1 := ⟨mm_wmem 8 2 rfl rfl, by decide +kernel, by decide +kernel, by decide +kernel, by decide +kernel⟩
theorem md_c186 : mm_cal 186 1 := ⟨mm_wmem 8 5 rfl rfl, by decide +kernel, by decide +kernel, by decide +kernel, by decide +kernel⟩
theorem md_c187 : mm_cal 187 1 := ⟨mm_wmem 8 26 rfl rfl, by decide +kernel, by decide +kernel, by decide +kernel, by decide +kernel⟩
theorem md_c188 : mm_cal 188 0 := ⟨mm_wmem 8 30 rfl rfl, by decide +kernel, by decide +kernel, by decide +kernel, by decide +kernel⟩
theorem md_c189 : mm_cal 189 2 := ⟨mm_wmem 8 33 rfl rfl, by decide +kernel, by decide +kernel, by decide +kernel, by decide +kernel⟩
theorem md_c190 : mm_cal 190 2 := ⟨mm_wmem 7 31 rfl rfl, by decide +kernel, by decide +kernel, by decide +kernel, by decide +kernel⟩
theorem md_c191 : mm_cal 191 0 := ⟨mm_wmem 8 65 rfl rfl, by decide +kernel, by decide +kernel, by decide +kernel, by decide +kernel⟩
theorem md_c192 : mm_cal 192 3 := ⟨mm_wmem 7 34 rfl rfl, by decide +kernel, by decide +kernel, by decide +kernel, by decide +kernel⟩
theorem md_c193 : mm_cal 193 0 := ⟨mm_wmem 5 94 rfl rfl, by decide +kernel, by decide +kernel, by decide +kernel, by decide +kernel⟩
theorem md_ca0 : ∀ i, i < 16 → 1 ≤ 0 + i → mm_cal (0 + i) (md_np (0 + i)) := by
  intro i hi h1
  match i, hi, h1 with
  | 0, _, h1 => exact absurd h1 (by decide)
  | 1, _, _ => exact md_c1
  | 2, _, _ => exact md_c2
  | 3, _, _ => exact md_c3
  | 4, _, _ => exact md_c4
  | 5, _, _ => exact md_c5
  | 6, _, _ => exact md_c6
  | 7, _, _ => exact md_c7
  | 8, _, _ => exact md_c8
  | 9, _, _ => exact md_c9
  | 10, _, _ => exact md_c10
  | 11, _, _ => exact md_c11
  | 12, _, _ => exact md_c12
  | 13, _, _ => exact md_c13
  | 14, _, _ => exact md_c14
  | 15, _, _ => exact md_c15
  | n + 16, hi, _ => omega
theorem md_ca1 : ∀ i, i < 16 → 1 ≤ 16 + i → mm_cal (16 + i) (md_np (16 + i)) := by
  intro i hi h1
  match i, hi, h1 with
  | 0, _, _ => exact md_c16
  | 1, _, _ => exact md_c17
  | 2, _, _ => exact md_c18
  | 3, _, _ => exact md_c19
  | 4, _, _ => exact md_c20
  | 5, _, _ => exact md_c21
  | 6, _, _ => exact md_c22
  | 7, _, _ => exact md_c23
  | 8, _, _ => exact md_c24
  | 9, _, _ => exact md_c25
  | 10, _, _ => exact md_c26
  | 11, _, _ => exact md_c27
  | 12, _, _ => exact md_c28
  | 13, _, _ => exact md_c29
  | 14, _, _ => exact md_c30
  | 15, _, _ => exact md_c31
  | n + 16, hi, _ => omega
theorem md_ca2 : ∀ i, i < 16 → 1 ≤ 32 + i → mm_cal (32 + i) (md_np (32 + i)) := by
  intro i hi h1
  match i, hi, h1 with
  | 0, _, _ => exact md_c32
  | 1, _, _ => exact md_c33
  | 2, _, _ => exact md_c34
  | 3, _, _ => exact md_c35
  | 4, _, _ => exact md_c36
  | 5, _, _ => exact md_c37
  | 6, _, _ => exact md_c38
  | 7, _, _ => exact md_c39
  | 8, _, _ => exact md_c40
  | 9, _, _ => exact md_c41
  | 10, _, _ => exact md_c42
  | 11, _, _ => exact md_c43
  | 12, _, _ => exact md_c44
  | 13, _, _ => exact md_c45
  | 14, _, _ => exact md_c46
  | 15, _, _ => exact md_c47
  | n + 16, hi, _ => omega
theorem md_ca3 : ∀ i, i < 16 → 1 ≤ 48 + i → mm_cal (48 + i) (md_np (48 + i)) := by
  intro i hi h1
  match i, hi, h1 with
  | 0, _, _ => exact md_c48
  | 1, _, _ => exact md_c49
  | 2, _, _ => exact md_c50
  | 3, _, _ => exact md_c51
  | 4, _, _ => exact md_c52
  | 5, _, _ => exact md_c53
  | 6, _, _ => exact md_c54
  | 7, _, _ => exact md_c55
  | 8, _, _ => exact md_c56
  | 9, _, _ => exact md_c57
  | 10, _, _ => exact md_c58
  | 11, _, _ => exact md_c59
  | 12, _, _ => exact md_c60
  | 13, _, _ => exact md_c61
  | 14, _, _ => exact md_c62
  | 15, _, _ => exact md_c63
  | n + 16, hi, _ => omega
theorem md_ca4 : ∀ i, i < 16 → 1 ≤ 64 + i → mm_cal (64 + i) (md_np (64 + i)) := by
  intro i hi h1
  match i, hi, h1 with
  | 0, _, _ => exact md_c64
  | 1, _, _ => exact md_c65
  | 2, _, _ => exact md_c66
  | 3, _, _ => exact md_c67
  | 4, _, _ => exact md_c68
  | 5, _, _ => exact md_c69
  | 6, _, _ => exact md_c70
  | 7, _, _ => exact md_c71
  | 8, _, _ => exact md_c72
  | 9, _, _ => exact md_c73
  | 10, _, _ => exact md_c74
  | 11, _, _ => exact md_c75
  | 12, _, _ => exact md_c76
  | 13, _, _ => exact md_c77
  | 14, _, _ => exact md_c78
  | 15, _, _ => exact md_c79
  | n + 16, hi, _ => omega
theorem md_ca5 : ∀ i, i < 16 → 1 ≤ 80 + i → mm_cal (80 + i) (md_np (80 + i)) := by
  intro i hi h1
  match i, hi, h1 with
  | 0, _, _ => exact md_c80
  | 1, _, _ => exact md_c81
  | 2, _, _ => exact md_c82
  | 3, _, _ => exact md_c83
  | 4, _, _ => exact md_c84
  | 5, _, _ => exact md_c85
  | 6, _, _ => exact md_c86
  | 7, _, _ => exact md_c87
  | 8, _, _ => exact md_c88
  | 9, _, _ => exact md_c89
  | 10, _, _ => exact md_c90
  | 11, _, _ => exact md_c91
  | 12, _, _ => exact md_c92
  | 13, _, _ => exact md_c93
  | 14, _, _ => exact md_c94
  | 15, _, _ => exact md_c95
  | n + 16, hi, _ => omega
theorem md_ca6 : ∀ i, i < 16 → 1 ≤ 96 + i → mm_cal (96 + i) (md_np (96 + i)) := by
  intro i hi h1
  match i, hi, h1 with
  | 0, _, _ => exact md_c96
  | 1, _, _ => exact md_c97
  | 2, _, _ => exact md_c98
  | 3, _, _ => exact md_c99
  | 4, _, _ => exact md_c100
  | 5, _, _ => exact md_c101
  | 6, _, _ => exact md_c102
  | 7, _, _ => exact md_c103
  | 8, _, _ => exact md_c104
  | 9, _, _ => exact md_c105
  | 10, _, _ => exact md_c106
  | 11, _, _ => exact md_c107
  | 12, _, _ => exact md_c108
  | 13, _, _ => exact md_c109
  | 14, _, _ => exact md_c110
  | 15, _, _ => exact md_c111
  | n + 16, hi, _ => omega
theorem md_ca7 : ∀ i, i < 16 → 1 ≤ 112 + i → mm_cal (112 + i) (md_np (112 + i)) := by
  intro i hi h1
  match i, hi, h1 with
  | 0, _, _ => exact md_c112
  | 1, _, _ => exact md_c113
  | 2, _, _ => exact md_c114
  | 3, _, _ => exact md_c115
  | 4, _, _ => exact md_c116
  | 5, _, _ => exact md_c117
  | 6, _, _ => exact md_c118
  | 7, _, _ => exact md_c119
  | 8, _, _ => exact md_c120
  | 9, _, _ => exact md_c121
  | 10, _, _ => exact md_c122
  | 11, _, _ => exact md_c123
  | 12, _, _ => exact md_c124
  | 13, _, _ => exact md_c125
  | 14, _, _ => exact md_c126
  | 15, _, _ => exact md_c127
  | n + 16, hi, _ => omega
theorem md_ca8 : ∀ i, i < 16 → 1 ≤ 128 + i → mm_cal (128 + i) (md_np (128 + i)) := by
  intro i hi h1
  match i, hi, h1 with
  | 0, _, _ => exact md_c128
  | 1, _, _ => exact md_c129
  | 2, _, _ => exact md_c130
  | 3, _, _ => exact md_c131
  | 4, _, _ => exact md_c132
  | 5, _, _ => exact md_c133
  | 6, _, _ => exact md_c134
  | 7, _, _ => exact md_c135
  | 8, _, _ => exact md_c136
  | 9, _, _ => exact md_c137
  | 10, _, _ => exact md_c138
  | 11, _, _ => exact md_c139
  | 12, _, _ => exact md_c140
  | 13, _, _ => exact md_c141
  | 14, _, _ => exact md_c142
  | 15, _, _ => exact md_c143
  | n + 16, hi, _ => omega
theorem md_ca9 : ∀ i, i < 16 → 1 ≤ 144 + i → mm_cal (144 + i) (md_np (144 + i)) := by
  intro i hi h1
  match i, hi, h1 with
  | 0, _, _ => exact md_c144
  | 1, _, _ => exact md_c145
  | 2, _, _ => exact md_c146
  | 3, _, _ => exact md_c147
  | 4, _, _ => exact md_c148
  | 5, _, _ => exact md_c149
  | 6, _, _ => exact md_c150
  | 7, _, _ => exact md_c151
  | 8, _, _ => exact md_c152
  | 9, _, _ => exact md_c153
  | 10, _, _ => exact md_c154
  | 11, _, _ => exact md_c155
  | 12, _, _ => exact md_c156
  | 13, _, _ => exact md_c157
  | 14, _, _ => exact md_c158
  | 15, _, _ => exact md_c159
  | n + 16, hi, _ => omega
theorem md_ca10 : ∀ i, i < 16 → 1 ≤ 160 + i → mm_cal (160 + i) (md_np (160 + i)) := by
  intro i hi h1
  match i, hi, h1 with
  | 0, _, _ => exact md_c160
  | 1, _, _ => exact md_c161
  | 2, _, _ => exact md_c162
  | 3, _, _ => exact md_c163
  | 4, _, _ => exact md_c164
  | 5, _, _ => exact md_c165
  | 6, _, _ => exact md_c166
  | 7, _, _ => exact md_c167
  | 8, _, _ => exact md_c168
  | 9, _, _ => exact md_c169
  | 10, _, _ => exact md_c170
  | 11, _, _ => exact md_c171
  | 12, _, _ => exact md_c172
  | 13, _, _ => exact md_c173
  | 14, _, _ => exact md_c174
  | 15, _, _ => exact md_c175
  | n + 16, hi, _ => omega
theorem md_ca11 : ∀ i, i < 16 → 1 ≤ 176 + i → mm_cal (176 + i) (md_np (176 + i)) := by
  intro i hi h1
  match i, hi, h1 with
  | 0, _, _ => exact md_c176
  | 1, _, _ => exact md_c177
  | 2, _, _ => exact md_c178
  | 3, _, _ => exact md_c179
  | 4, _, _ => exact md_c180
  | 5, _, _ => exact md_c181
  | 6, _, _ => exact md_c182
  | 7, _, _ => exact md_c183
  | 8, _, _ => exact md_c184
  | 9, _, _ => exact md_c185
  | 10, _, _ => exact md_c186
  | 11, _, _ => exact md_c187
  | 12, _, _ => exact md_c188
  | 13, _, _ => exact md_c189
  | 14, _, _ => exact md_c190
  | 15, _, _ => exact md_c191
  | n + 16, hi, _ => omega
theorem md_ca12 : ∀ i, i < 2 → 1 ≤ 192 + i → mm_cal (192 + i) (md_np (192 + i)) := by
  intro i hi h1
  match i, hi, h1 with
  | 0, _, _ => exact md_c192
  | 1, _, _ => exact md_c193
  | n + 2, hi, _ => omega
theorem md_call : ∀ j, 1 ≤ j → j < md_nM → mm_cal j (md_np j) := by
  intro j h1 h2
  have h3 : j < 194 := h2
  obtain ⟨a, i, hi, rfl⟩ : ∃ a i, i < 16 ∧ j = 16 * a + i := ⟨j / 16, j % 16, by omega, by omega⟩
  match a, h1, h3 with
  | 0, h1, h3 => exact md_ca0 i (by omega) h1
  | 1, h1, h3 => exact md_ca1 i (by omega) h1
  | 2, h1, h3 => exact md_ca2 i (by omega) h1
  | 3, h1, h3 => exact md_ca3 i (by omega) h1
  | 4, h1, h3 => exact md_ca4 i (by omega) h1
  | 5, h1, h3 => exact md_ca5 i (by omega) h1
  | 6, h1, h3 => exact md_ca6 i (by omega) h1
  | 7, h1, h3 => exact md_ca7 i (by omega) h1
  | 8, h1, h3 => exact md_ca8 i (by omega) h1
  | 9, h1, h3 => exact md_ca9 i (by omega) h1
  | 10, h1, h3 => exact md_ca10 i (by omega) h1
  | 11, h1, h3 => exact md_ca11 i (by omega) h1
  | 12, h1, h3 => exact md_ca12 i (by omega) h1
  | n + 13, _, h3 => omega
set_option maxRecDepth 1000000 in
theorem md_th0a : ∀ w ∈ Jvm.Cond.classLink "PaintBank" 108 "java/lang/IllegalArgumentException" :: Jvm.Cond.initialized "java/lang/IllegalArgumentException" :: vx_atS "PaintBank" 112 "java/lang/IllegalArgumentException" ["java/lang/RuntimeException", "java/lang/Exception"], (w ∈ lw_tbl ∧ goodWord w = true) ∨ w ∈ md_gw := by decide +kernel
set_option maxRecDepth 1000000 in
theorem md_th0b : ∀ w ∈ Jvm.Cond.classLink "PaintBank" 108 "java/lang/IllegalArgumentException" :: Jvm.Cond.initialized "java/lang/IllegalArgumentException" :: vx_atS "PaintBank" 112 "java/lang/IllegalArgumentException" ["java/lang/RuntimeException", "java/lang/Exception"], vx_ot w = true := by decide +kernel
set_option maxRecDepth 1000000 in
theorem md_th0 : mm_thr 9 21 108 1 := ⟨"the setup has an error", ["java/lang/RuntimeException", "java/lang/Exception"], 117, 112, 58, by decide +kernel, Or.inl ⟨by decide +kernel, by decide +kernel, by decide +kernel⟩, by decide +kernel, by decide +kernel, fun w hw => (md_th0a w hw).imp (fun z => mm_wTg z.1 z.2) id, md_th0b, by decide +kernel, by decide +kernel, rfl⟩
set_option maxRecDepth 1000000 in
theorem md_th1a : ∀ w ∈ Jvm.Cond.classLink "PaintBank" 186 "java/lang/IndexOutOfBoundsException" :: Jvm.Cond.initialized "java/lang/IndexOutOfBoundsException" :: vx_atS "PaintBank" 190 "java/lang/IndexOutOfBoundsException" ["java/lang/RuntimeException", "java/lang/Exception"], (w ∈ lw_tbl ∧ goodWord w = true) ∨ w ∈ md_gw := by decide +kernel
set_option maxRecDepth 1000000 in
theorem md_th1b : ∀ w ∈ Jvm.Cond.classLink "PaintBank" 186 "java/lang/IndexOutOfBoundsException" :: Jvm.Cond.initialized "java/lang/IndexOutOfBoundsException" :: vx_atS "PaintBank" 190 "java/lang/IndexOutOfBoundsException" ["java/lang/RuntimeException", "java/lang/Exception"], vx_ot w = true := by decide +kernel
set_option maxRecDepth 1000000 in
theorem md_th1 : mm_thr 11 15 186 2 := ⟨"no such car", ["java/lang/RuntimeException", "java/lang/Exception"], 376, 190, 59, by decide +kernel, Or.inr ⟨by decide +kernel, by decide +kernel, by decide +kernel⟩, by decide +kernel, by decide +kernel, fun w hw => (md_th1a w hw).imp (fun z => mm_wTg z.1 z.2) id, md_th1b, by decide +kernel, by decide +kernel, rfl⟩
set_option maxRecDepth 1000000 in
theorem md_th2a : ∀ w ∈ Jvm.Cond.classLink "PaintBank" 97 "java/lang/IllegalStateException" :: Jvm.Cond.initialized "java/lang/IllegalStateException" :: vx_atS "PaintBank" 101 "java/lang/IllegalStateException" ["java/lang/RuntimeException", "java/lang/Exception"], (w ∈ lw_tbl ∧ goodWord w = true) ∨ w ∈ md_gw := by decide +kernel
set_option maxRecDepth 1000000 in
theorem md_th2b : ∀ w ∈ Jvm.Cond.classLink "PaintBank" 97 "java/lang/IllegalStateException" :: Jvm.Cond.initialized "java/lang/IllegalStateException" :: vx_atS "PaintBank" 101 "java/lang/IllegalStateException" ["java/lang/RuntimeException", "java/lang/Exception"], vx_ot w = true := by decide +kernel
set_option maxRecDepth 1000000 in
theorem md_th2 : mm_thr 29 16 97 0 := ⟨"the buffer is full", ["java/lang/RuntimeException", "java/lang/Exception"], 99, 101, 62, by decide +kernel, Or.inl ⟨by decide +kernel, by decide +kernel, by decide +kernel⟩, by decide +kernel, by decide +kernel, fun w hw => (md_th2a w hw).imp (fun z => mm_wTg z.1 z.2) id, md_th2b, by decide +kernel, by decide +kernel, rfl⟩
set_option maxRecDepth 1000000 in
theorem md_th3a : ∀ w ∈ Jvm.Cond.classLink "PaintBank" 108 "java/lang/IllegalArgumentException" :: Jvm.Cond.initialized "java/lang/IllegalArgumentException" :: vx_atS "PaintBank" 112 "java/lang/IllegalArgumentException" ["java/lang/RuntimeException", "java/lang/Exception"], (w ∈ lw_tbl ∧ goodWord w = true) ∨ w ∈ md_gw := by decide +kernel
set_option maxRecDepth 1000000 in
theorem md_th3b : ∀ w ∈ Jvm.Cond.classLink "PaintBank" 108 "java/lang/IllegalArgumentException" :: Jvm.Cond.initialized "java/lang/IllegalArgumentException" :: vx_atS "PaintBank" 112 "java/lang/IllegalArgumentException" ["java/lang/RuntimeException", "java/lang/Exception"], vx_ot w = true := by decide +kernel
set_option maxRecDepth 1000000 in
theorem md_th3 : mm_thr 30 15 108 1 := ⟨"not a length to truncate to", ["java/lang/RuntimeException", "java/lang/Exception"], 110, 112, 63, by decide +kernel, Or.inl ⟨by decide +kernel, by decide +kernel, by decide +kernel⟩, by decide +kernel, by decide +kernel, fun w hw => (md_th3a w hw).imp (fun z => mm_wTg z.1 z.2) id, md_th3b, by decide +kernel, by decide +kernel, rfl⟩
set_option maxRecDepth 1000000 in
theorem md_th4a : ∀ w ∈ Jvm.Cond.classLink "PaintBank" 186 "java/lang/IndexOutOfBoundsException" :: Jvm.Cond.initialized "java/lang/IndexOutOfBoundsException" :: vx_atS "PaintBank" 190 "java/lang/IndexOutOfBoundsException" ["java/lang/RuntimeException", "java/lang/Exception"], (w ∈ lw_tbl ∧ goodWord w = true) ∨ w ∈ md_gw := by decide +kernel
set_option maxRecDepth 1000000 in
theorem md_th4b : ∀ w ∈ Jvm.Cond.classLink "PaintBank" 186 "java/lang/IndexOutOfBoundsException" :: Jvm.Cond.initialized "java/lang/IndexOutOfBoundsException" :: vx_atS "PaintBank" 190 "java/lang/IndexOutOfBoundsException" ["java/lang/RuntimeException", "java/lang/Exception"], vx_ot w = true := by decide +kernel
set_option maxRecDepth 1000000 in
theorem md_th4 : mm_thr 34 15 186 2 := ⟨"no such lane", ["java/lang/RuntimeException", "java/lang/Exception"], 374, 190, 64, by decide +kernel, Or.inr ⟨by decide +kernel, by decide +kernel, by decide +kernel⟩, by decide +kernel, by decide +kernel, fun w hw => (md_th4a w hw).imp (fun z => mm_wTg z.1 z.2) id, md_th4b, by decide +kernel, by decide +kernel, rfl⟩
set_option maxRecDepth 1000000 in
theorem md_th5a : ∀ w ∈ Jvm.Cond.classLink "PaintBank" 186 "java/lang/IndexOutOfBoundsException" :: Jvm.Cond.initialized "java/lang/IndexOutOfBoundsException" :: vx_atS "PaintBank" 190 "java/lang/IndexOutOfBoundsException" ["java/lang/RuntimeException", "java/lang/Exception"], (w ∈ lw_tbl ∧ goodWord w = true) ∨ w ∈ md_gw := by decide +kernel
set_option maxRecDepth 1000000 in
theorem md_th5b : ∀ w ∈ Jvm.Cond.classLink "PaintBank" 186 "java/lang/IndexOutOfBoundsException" :: Jvm.Cond.initialized "java/lang/IndexOutOfBoundsException" :: vx_atS "PaintBank" 190 "java/lang/IndexOutOfBoundsException" ["java/lang/RuntimeException", "java/lang/Exception"], vx_ot w = true := by decide +kernel
set_option maxRecDepth 1000000 in
theorem md_th5 : mm_thr 36 20 186 2 := ⟨"no such painting", ["java/lang/RuntimeException", "java/lang/Exception"], 347, 190, 65, by decide +kernel, Or.inr ⟨by decide +kernel, by decide +kernel, by decide +kernel⟩, by decide +kernel, by decide +kernel, fun w hw => (md_th5a w hw).imp (fun z => mm_wTg z.1 z.2) id, md_th5b, by decide +kernel, by decide +kernel, rfl⟩
set_option maxRecDepth 1000000 in
theorem md_th6a : ∀ w ∈ Jvm.Cond.classLink "PaintBank" 108 "java/lang/IllegalArgumentException" :: Jvm.Cond.initialized "java/lang/IllegalArgumentException" :: vx_atS "PaintBank" 112 "java/lang/IllegalArgumentException" ["java/lang/RuntimeException", "java/lang/Exception"], (w ∈ lw_tbl ∧ goodWord w = true) ∨ w ∈ md_gw := by decide +kernel
set_option maxRecDepth 1000000 in
theorem md_th6b : ∀ w ∈ Jvm.Cond.classLink "PaintBank" 108 "java/lang/IllegalArgumentException" :: Jvm.Cond.initialized "java/lang/IllegalArgumentException" :: vx_atS "PaintBank" 112 "java/lang/IllegalArgumentException" ["java/lang/RuntimeException", "java/lang/Exception"], vx_ot w = true := by decide +kernel
set_option maxRecDepth 1000000 in
theorem md_th6 : mm_thr 36 40 108 1 := ⟨"no such number of a painting", ["java/lang/RuntimeException", "java/lang/Exception"], 349, 112, 66, by decide +kernel, Or.inr ⟨by decide +kernel, by decide +kernel, by decide +kernel⟩, by decide +kernel, by decide +kernel, fun w hw => (md_th6a w hw).imp (fun z => mm_wTg z.1 z.2) id, md_th6b, by decide +kernel, by decide +kernel, rfl⟩
theorem md_thok : ∀ q ∈ md_thl, mm_thr q.1 q.2.1 q.2.2.1 q.2.2.2 := List.forall_mem_cons.mpr ⟨md_th0, List.forall_mem_cons.mpr ⟨md_th1, List.forall_mem_cons.mpr ⟨md_th2, List.forall_mem_cons.mpr ⟨md_th3, List.forall_mem_cons.mpr ⟨md_th4, List.forall_mem_cons.mpr ⟨md_th5, List.forall_mem_cons.mpr ⟨md_th6, fun _ h => nomatch h⟩⟩⟩⟩⟩⟩⟩
theorem md_hok0 : ∀ q ∈ md_hdL, mm_hok q.1 q.2.1 q.2.2.1 q.2.2.2 := fun _ h => nomatch h
