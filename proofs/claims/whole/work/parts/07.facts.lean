theorem f_Eng_12 : Fx "WardEngine" 12 0 0 := ⟨R_Eng, F_Eng, 10, rfl, rfl, by decide, i_Eng, t_Eng_ok, n_Eng, tk3 13 rfl rfl⟩
theorem f_Eng_21 : Fx "WardEngine" 21 0 1 := ⟨R_Eng, F_Eng, 10, rfl, rfl, by decide, i_Eng, t_Eng_ok, n_Eng, tk3 14 rfl rfl⟩
theorem f_Eng_28 : Fx "WardEngine" 28 0 2 := ⟨R_Eng, F_Eng, 10, rfl, rfl, by decide, i_Eng, t_Eng_ok, n_Eng, tk3 15 rfl rfl⟩
theorem f_Eng_35 : Fx "WardEngine" 35 0 3 := ⟨R_Eng, F_Eng, 10, rfl, rfl, by decide, i_Eng, t_Eng_ok, n_Eng, tk3 16 rfl rfl⟩
theorem f_Eng_42 : Fx "WardEngine" 42 0 4 := ⟨R_Eng, F_Eng, 10, rfl, rfl, by decide, i_Eng, t_Eng_ok, n_Eng, tk3 17 rfl rfl⟩
theorem f_Eng_49 : Fx "WardEngine" 49 0 5 := ⟨R_Eng, F_Eng, 10, rfl, rfl, by decide, i_Eng, t_Eng_ok, n_Eng, tk3 18 rfl rfl⟩
theorem f_Eng_56 : Fx "WardEngine" 56 0 6 := ⟨R_Eng, F_Eng, 10, rfl, rfl, by decide, i_Eng, t_Eng_ok, n_Eng, tk3 19 rfl rfl⟩
theorem f_Eng_60 : Fx "WardEngine" 60 0 7 := ⟨R_Eng, F_Eng, 10, rfl, rfl, by decide, i_Eng, t_Eng_ok, n_Eng, tk3 20 rfl rfl⟩
theorem f_Eng_66 : Fx "WardEngine" 66 0 8 := ⟨R_Eng, F_Eng, 10, rfl, rfl, by decide, i_Eng, t_Eng_ok, n_Eng, tk3 21 rfl rfl⟩
theorem f_Eng_70 : Fx "WardEngine" 70 0 9 := ⟨R_Eng, F_Eng, 10, rfl, rfl, by decide, i_Eng, t_Eng_ok, n_Eng, tk3 22 rfl rfl⟩
theorem f_Eng_84 : Fx "WardEngine" 84 1 0 := ⟨R_Rdr, F_Rdr, 11, rfl, rfl, by decide, i_Rdr, t_Rdr_ok, n_Rdr, tk1 105 rfl rfl⟩
theorem f_Eng_119 : Fx "WardEngine" 119 5 3 := ⟨R_Mch, F_Mch, 19, rfl, rfl, by decide, i_Mch, t_Mch_ok, n_Mch, tk2 18 rfl rfl⟩
theorem f_Eng_123 : Fx "WardEngine" 123 5 4 := ⟨R_Mch, F_Mch, 19, rfl, rfl, by decide, i_Mch, t_Mch_ok, n_Mch, tk2 21 rfl rfl⟩
theorem f_Eng_158 : Fx "WardEngine" 158 5 15 := ⟨R_Mch, F_Mch, 19, rfl, rfl, by decide, i_Mch, t_Mch_ok, n_Mch, tk2 50 rfl rfl⟩
theorem f_Eng_179 : Fx "WardEngine" 179 5 17 := ⟨R_Mch, F_Mch, 19, rfl, rfl, by decide, i_Mch, t_Mch_ok, n_Mch, tk2 57 rfl rfl⟩
theorem f_Eng_183 : Fx "WardEngine" 183 6 0 := ⟨R_Rng, F_Rng, 5, rfl, rfl, by decide, i_Rng, t_Rng_ok, n_Rng, tk1 232 rfl rfl⟩
theorem f_Eng_188 : Fx "WardEngine" 188 5 18 := ⟨R_Mch, F_Mch, 19, rfl, rfl, by decide, i_Mch, t_Mch_ok, n_Mch, tk2 60 rfl rfl⟩
theorem f_Eng_191 : Fx "WardEngine" 191 5 8 := ⟨R_Mch, F_Mch, 19, rfl, rfl, by decide, i_Mch, t_Mch_ok, n_Mch, tk2 33 rfl rfl⟩
theorem f_Eng_194 : Fx "WardEngine" 194 5 9 := ⟨R_Mch, F_Mch, 19, rfl, rfl, by decide, i_Mch, t_Mch_ok, n_Mch, tk2 36 rfl rfl⟩
theorem f_Eng_199 : Fx "WardEngine" 199 5 5 := ⟨R_Mch, F_Mch, 19, rfl, rfl, by decide, i_Mch, t_Mch_ok, n_Mch, tk2 24 rfl rfl⟩
theorem f_Eng_202 : Fx "WardEngine" 202 5 6 := ⟨R_Mch, F_Mch, 19, rfl, rfl, by decide, i_Mch, t_Mch_ok, n_Mch, tk2 27 rfl rfl⟩
theorem f_Eng_205 : Fx "WardEngine" 205 5 7 := ⟨R_Mch, F_Mch, 19, rfl, rfl, by decide, i_Mch, t_Mch_ok, n_Mch, tk2 30 rfl rfl⟩
theorem f_Eng_213 : Fx "WardEngine" 213 5 12 := ⟨R_Mch, F_Mch, 19, rfl, rfl, by decide, i_Mch, t_Mch_ok, n_Mch, tk2 41 rfl rfl⟩
theorem f_Eng_218 : Fx "WardEngine" 218 5 13 := ⟨R_Mch, F_Mch, 19, rfl, rfl, by decide, i_Mch, t_Mch_ok, n_Mch, tk2 44 rfl rfl⟩
theorem f_Eng_221 : Fx "WardEngine" 221 5 14 := ⟨R_Mch, F_Mch, 19, rfl, rfl, by decide, i_Mch, t_Mch_ok, n_Mch, tk2 47 rfl rfl⟩
theorem f_Eng_226 : Fx "WardEngine" 226 3 5 := ⟨R_Pol, F_Pol, 7, rfl, rfl, by decide, i_Pol, t_Pol_ok, n_Pol, tk1 178 rfl rfl⟩
theorem f_Eng_229 : Fx "WardEngine" 229 5 2 := ⟨R_Mch, F_Mch, 19, rfl, rfl, by decide, i_Mch, t_Mch_ok, n_Mch, tk2 15 rfl rfl⟩
theorem f_Eng_242 : Fx "WardEngine" 242 5 16 := ⟨R_Mch, F_Mch, 19, rfl, rfl, by decide, i_Mch, t_Mch_ok, n_Mch, tk2 54 rfl rfl⟩
theorem f_Eng_278 : Fx "WardEngine" 278 9 0 := ⟨R_Cmp, F_Cmp, 7, rfl, rfl, by decide, i_Cmp, t_Cmp_ok, n_Cmp, tk2 195 rfl rfl⟩
theorem f_Eng_284 : Fx "WardEngine" 284 9 1 := ⟨R_Cmp, F_Cmp, 7, rfl, rfl, by decide, i_Cmp, t_Cmp_ok, n_Cmp, tk2 197 rfl rfl⟩
theorem f_Rdr_9 : Fx "WardEngine$Reader" 9 1 6 := ⟨R_Rdr, F_Rdr, 11, rfl, rfl, by decide, i_Rdr, t_Rdr_ok, n_Rdr, tk1 118 rfl rfl⟩
theorem f_Rdr_15 : Fx "WardEngine$Reader" 15 1 7 := ⟨R_Rdr, F_Rdr, 11, rfl, rfl, by decide, i_Rdr, t_Rdr_ok, n_Rdr, tk1 119 rfl rfl⟩
theorem f_Rdr_19 : Fx "WardEngine$Reader" 19 1 8 := ⟨R_Rdr, F_Rdr, 11, rfl, rfl, by decide, i_Rdr, t_Rdr_ok, n_Rdr, tk1 120 rfl rfl⟩
theorem f_Rdr_22 : Fx "WardEngine$Reader" 22 1 9 := ⟨R_Rdr, F_Rdr, 11, rfl, rfl, by decide, i_Rdr, t_Rdr_ok, n_Rdr, tk1 121 rfl rfl⟩
theorem f_Rdr_25 : Fx "WardEngine$Reader" 25 1 10 := ⟨R_Rdr, F_Rdr, 11, rfl, rfl, by decide, i_Rdr, t_Rdr_ok, n_Rdr, tk1 122 rfl rfl⟩
theorem f_Rdr_39 : Fx "WardEngine$Reader" 39 1 0 := ⟨R_Rdr, F_Rdr, 11, rfl, rfl, by decide, i_Rdr, t_Rdr_ok, n_Rdr, tk1 106 rfl rfl⟩
theorem f_Rdr_43 : Fx "WardEngine$Reader" 43 1 4 := ⟨R_Rdr, F_Rdr, 11, rfl, rfl, by decide, i_Rdr, t_Rdr_ok, n_Rdr, tk1 116 rfl rfl⟩
theorem f_Rdr_53 : Fx "WardEngine$Reader" 53 1 3 := ⟨R_Rdr, F_Rdr, 11, rfl, rfl, by decide, i_Rdr, t_Rdr_ok, n_Rdr, tk1 113 rfl rfl⟩
theorem f_Rdr_56 : Fx "WardEngine$Reader" 56 1 5 := ⟨R_Rdr, F_Rdr, 11, rfl, rfl, by decide, i_Rdr, t_Rdr_ok, n_Rdr, tk1 117 rfl rfl⟩
theorem f_Rdr_62 : Fx "WardEngine$Reader" 62 1 1 := ⟨R_Rdr, F_Rdr, 11, rfl, rfl, by decide, i_Rdr, t_Rdr_ok, n_Rdr, tk1 109 rfl rfl⟩
theorem f_Rdr_65 : Fx "WardEngine$Reader" 65 1 2 := ⟨R_Rdr, F_Rdr, 11, rfl, rfl, by decide, i_Rdr, t_Rdr_ok, n_Rdr, tk1 112 rfl rfl⟩
theorem f_Prd_9 : Fx "WardEngine$PolicyReader" 9 2 0 := ⟨R_Prd, F_Prd, 5, rfl, rfl, by decide, i_Prd, t_Prd_ok, n_Prd, tk1 197 rfl rfl⟩
theorem f_Prd_18 : Fx "WardEngine$PolicyReader" 18 2 1 := ⟨R_Prd, F_Prd, 5, rfl, rfl, by decide, i_Prd, t_Prd_ok, n_Prd, tk1 198 rfl rfl⟩
theorem f_Prd_25 : Fx "WardEngine$PolicyReader" 25 2 2 := ⟨R_Prd, F_Prd, 5, rfl, rfl, by decide, i_Prd, t_Prd_ok, n_Prd, tk1 199 rfl rfl⟩
theorem f_Prd_34 : Fx "WardEngine$PolicyReader" 34 1 1 := ⟨R_Rdr, F_Rdr, 11, rfl, rfl, by decide, i_Rdr, t_Rdr_ok, n_Rdr, tk1 108 rfl rfl⟩
theorem f_Prd_41 : Fx "WardEngine$PolicyReader" 41 1 2 := ⟨R_Rdr, F_Rdr, 11, rfl, rfl, by decide, i_Rdr, t_Rdr_ok, n_Rdr, tk1 110 rfl rfl⟩
theorem f_Prd_51 : Fx "WardEngine$PolicyReader" 51 3 0 := ⟨R_Pol, F_Pol, 7, rfl, rfl, by decide, i_Pol, t_Pol_ok, n_Pol, tk1 166 rfl rfl⟩
theorem f_Prd_54 : Fx "WardEngine$PolicyReader" 54 2 3 := ⟨R_Prd, F_Prd, 5, rfl, rfl, by decide, i_Prd, t_Prd_ok, n_Prd, tk1 200 rfl rfl⟩
theorem f_Prd_57 : Fx "WardEngine$PolicyReader" 57 2 4 := ⟨R_Prd, F_Prd, 5, rfl, rfl, by decide, i_Prd, t_Prd_ok, n_Prd, tk1 201 rfl rfl⟩
theorem f_Prd_104 : Fx "WardEngine$PolicyReader" 104 1 3 := ⟨R_Rdr, F_Rdr, 11, rfl, rfl, by decide, i_Rdr, t_Rdr_ok, n_Rdr, tk1 114 rfl rfl⟩
theorem f_Pol_9 : Fx "WardEngine$Policy" 9 3 1 := ⟨R_Pol, F_Pol, 7, rfl, rfl, by decide, i_Pol, t_Pol_ok, n_Pol, tk1 167 rfl rfl⟩
theorem f_Pol_15 : Fx "WardEngine$Policy" 15 3 2 := ⟨R_Pol, F_Pol, 7, rfl, rfl, by decide, i_Pol, t_Pol_ok, n_Pol, tk1 169 rfl rfl⟩
theorem f_Pol_18 : Fx "WardEngine$Policy" 18 3 3 := ⟨R_Pol, F_Pol, 7, rfl, rfl, by decide, i_Pol, t_Pol_ok, n_Pol, tk1 171 rfl rfl⟩
theorem f_Pol_21 : Fx "WardEngine$Policy" 21 3 4 := ⟨R_Pol, F_Pol, 7, rfl, rfl, by decide, i_Pol, t_Pol_ok, n_Pol, tk1 173 rfl rfl⟩
theorem f_Pol_24 : Fx "WardEngine$Policy" 24 3 5 := ⟨R_Pol, F_Pol, 7, rfl, rfl, by decide, i_Pol, t_Pol_ok, n_Pol, tk1 175 rfl rfl⟩
theorem f_Pol_27 : Fx "WardEngine$Policy" 27 3 6 := ⟨R_Pol, F_Pol, 7, rfl, rfl, by decide, i_Pol, t_Pol_ok, n_Pol, tk1 179 rfl rfl⟩
theorem f_Pol_36 : Fx "WardEngine$Policy" 36 3 0 := ⟨R_Pol, F_Pol, 7, rfl, rfl, by decide, i_Pol, t_Pol_ok, n_Pol, tk1 165 rfl rfl⟩
theorem f_Img_9 : Fx "WardEngine$ImageReader" 9 4 0 := ⟨R_Img, F_Img, 5, rfl, rfl, by decide, i_Img, t_Img_ok, n_Img, tk2 100 rfl rfl⟩
theorem f_Img_18 : Fx "WardEngine$ImageReader" 18 4 1 := ⟨R_Img, F_Img, 5, rfl, rfl, by decide, i_Img, t_Img_ok, n_Img, tk2 101 rfl rfl⟩
theorem f_Img_26 : Fx "WardEngine$ImageReader" 26 4 2 := ⟨R_Img, F_Img, 5, rfl, rfl, by decide, i_Img, t_Img_ok, n_Img, tk2 102 rfl rfl⟩
theorem f_Img_30 : Fx "WardEngine$ImageReader" 30 4 4 := ⟨R_Img, F_Img, 5, rfl, rfl, by decide, i_Img, t_Img_ok, n_Img, tk2 104 rfl rfl⟩
theorem f_Img_38 : Fx "WardEngine$ImageReader" 38 1 1 := ⟨R_Rdr, F_Rdr, 11, rfl, rfl, by decide, i_Rdr, t_Rdr_ok, n_Rdr, tk1 107 rfl rfl⟩
theorem f_Img_52 : Fx "WardEngine$ImageReader" 52 1 2 := ⟨R_Rdr, F_Rdr, 11, rfl, rfl, by decide, i_Rdr, t_Rdr_ok, n_Rdr, tk1 111 rfl rfl⟩
theorem f_Img_61 : Fx "WardEngine$ImageReader" 61 4 3 := ⟨R_Img, F_Img, 5, rfl, rfl, by decide, i_Img, t_Img_ok, n_Img, tk2 103 rfl rfl⟩
theorem f_Img_64 : Fx "WardEngine$ImageReader" 64 5 0 := ⟨R_Mch, F_Mch, 19, rfl, rfl, by decide, i_Mch, t_Mch_ok, n_Mch, tk2 9 rfl rfl⟩
theorem f_Img_112 : Fx "WardEngine$ImageReader" 112 5 15 := ⟨R_Mch, F_Mch, 19, rfl, rfl, by decide, i_Mch, t_Mch_ok, n_Mch, tk2 51 rfl rfl⟩
theorem f_Img_120 : Fx "WardEngine$ImageReader" 120 1 3 := ⟨R_Rdr, F_Rdr, 11, rfl, rfl, by decide, i_Rdr, t_Rdr_ok, n_Rdr, tk1 115 rfl rfl⟩
theorem f_Mch_9 : Fx "WardEngine$Machine" 9 5 3 := ⟨R_Mch, F_Mch, 19, rfl, rfl, by decide, i_Mch, t_Mch_ok, n_Mch, tk2 16 rfl rfl⟩
theorem f_Mch_15 : Fx "WardEngine$Machine" 15 5 4 := ⟨R_Mch, F_Mch, 19, rfl, rfl, by decide, i_Mch, t_Mch_ok, n_Mch, tk2 19 rfl rfl⟩
theorem f_Mch_18 : Fx "WardEngine$Machine" 18 5 5 := ⟨R_Mch, F_Mch, 19, rfl, rfl, by decide, i_Mch, t_Mch_ok, n_Mch, tk2 22 rfl rfl⟩
theorem f_Mch_21 : Fx "WardEngine$Machine" 21 5 6 := ⟨R_Mch, F_Mch, 19, rfl, rfl, by decide, i_Mch, t_Mch_ok, n_Mch, tk2 25 rfl rfl⟩
theorem f_Mch_24 : Fx "WardEngine$Machine" 24 5 7 := ⟨R_Mch, F_Mch, 19, rfl, rfl, by decide, i_Mch, t_Mch_ok, n_Mch, tk2 28 rfl rfl⟩
theorem f_Mch_27 : Fx "WardEngine$Machine" 27 5 8 := ⟨R_Mch, F_Mch, 19, rfl, rfl, by decide, i_Mch, t_Mch_ok, n_Mch, tk2 31 rfl rfl⟩
theorem f_Mch_30 : Fx "WardEngine$Machine" 30 5 9 := ⟨R_Mch, F_Mch, 19, rfl, rfl, by decide, i_Mch, t_Mch_ok, n_Mch, tk2 34 rfl rfl⟩
theorem f_Mch_33 : Fx "WardEngine$Machine" 33 5 10 := ⟨R_Mch, F_Mch, 19, rfl, rfl, by decide, i_Mch, t_Mch_ok, n_Mch, tk2 37 rfl rfl⟩
theorem f_Mch_36 : Fx "WardEngine$Machine" 36 5 11 := ⟨R_Mch, F_Mch, 19, rfl, rfl, by decide, i_Mch, t_Mch_ok, n_Mch, tk2 38 rfl rfl⟩
theorem f_Mch_39 : Fx "WardEngine$Machine" 39 5 12 := ⟨R_Mch, F_Mch, 19, rfl, rfl, by decide, i_Mch, t_Mch_ok, n_Mch, tk2 40 rfl rfl⟩
theorem f_Mch_42 : Fx "WardEngine$Machine" 42 5 13 := ⟨R_Mch, F_Mch, 19, rfl, rfl, by decide, i_Mch, t_Mch_ok, n_Mch, tk2 42 rfl rfl⟩
theorem f_Mch_45 : Fx "WardEngine$Machine" 45 5 14 := ⟨R_Mch, F_Mch, 19, rfl, rfl, by decide, i_Mch, t_Mch_ok, n_Mch, tk2 45 rfl rfl⟩
theorem f_Mch_48 : Fx "WardEngine$Machine" 48 5 15 := ⟨R_Mch, F_Mch, 19, rfl, rfl, by decide, i_Mch, t_Mch_ok, n_Mch, tk2 48 rfl rfl⟩
theorem f_Mch_51 : Fx "WardEngine$Machine" 51 5 16 := ⟨R_Mch, F_Mch, 19, rfl, rfl, by decide, i_Mch, t_Mch_ok, n_Mch, tk2 52 rfl rfl⟩
theorem f_Mch_59 : Fx "WardEngine$Machine" 59 5 17 := ⟨R_Mch, F_Mch, 19, rfl, rfl, by decide, i_Mch, t_Mch_ok, n_Mch, tk2 55 rfl rfl⟩
theorem f_Mch_63 : Fx "WardEngine$Machine" 63 5 18 := ⟨R_Mch, F_Mch, 19, rfl, rfl, by decide, i_Mch, t_Mch_ok, n_Mch, tk2 58 rfl rfl⟩
theorem f_Mch_66 : Fx "WardEngine$Machine" 66 5 1 := ⟨R_Mch, F_Mch, 19, rfl, rfl, by decide, i_Mch, t_Mch_ok, n_Mch, tk2 11 rfl rfl⟩
theorem f_Mch_70 : Fx "WardEngine$Machine" 70 5 2 := ⟨R_Mch, F_Mch, 19, rfl, rfl, by decide, i_Mch, t_Mch_ok, n_Mch, tk2 13 rfl rfl⟩
theorem f_Mch_73 : Fx "WardEngine$Machine" 73 5 0 := ⟨R_Mch, F_Mch, 19, rfl, rfl, by decide, i_Mch, t_Mch_ok, n_Mch, tk2 8 rfl rfl⟩
theorem f_Rng_9 : Fx "WardEngine$Ring" 9 6 2 := ⟨R_Rng, F_Rng, 5, rfl, rfl, by decide, i_Rng, t_Rng_ok, n_Rng, tk1 234 rfl rfl⟩
theorem f_Rng_15 : Fx "WardEngine$Ring" 15 6 3 := ⟨R_Rng, F_Rng, 5, rfl, rfl, by decide, i_Rng, t_Rng_ok, n_Rng, tk1 235 rfl rfl⟩
theorem f_Rng_18 : Fx "WardEngine$Ring" 18 6 4 := ⟨R_Rng, F_Rng, 5, rfl, rfl, by decide, i_Rng, t_Rng_ok, n_Rng, tk1 236 rfl rfl⟩
theorem f_Rng_22 : Fx "WardEngine$Ring" 22 6 0 := ⟨R_Rng, F_Rng, 5, rfl, rfl, by decide, i_Rng, t_Rng_ok, n_Rng, tk1 231 rfl rfl⟩
theorem f_Rng_25 : Fx "WardEngine$Ring" 25 6 1 := ⟨R_Rng, F_Rng, 5, rfl, rfl, by decide, i_Rng, t_Rng_ok, n_Rng, tk1 233 rfl rfl⟩
theorem f_Stp_12 : Fx "WardEngine$Stepper" 12 7 0 := ⟨R_Stp, F_Stp, 15, rfl, rfl, by decide, i_Stp, t_Stp_ok, n_Stp, tk2 140 rfl rfl⟩
theorem f_Stp_18 : Fx "WardEngine$Stepper" 18 7 1 := ⟨R_Stp, F_Stp, 15, rfl, rfl, by decide, i_Stp, t_Stp_ok, n_Stp, tk2 141 rfl rfl⟩
theorem f_Stp_22 : Fx "WardEngine$Stepper" 22 7 11 := ⟨R_Stp, F_Stp, 15, rfl, rfl, by decide, i_Stp, t_Stp_ok, n_Stp, tk2 151 rfl rfl⟩
theorem f_Stp_26 : Fx "WardEngine$Stepper" 26 7 12 := ⟨R_Stp, F_Stp, 15, rfl, rfl, by decide, i_Stp, t_Stp_ok, n_Stp, tk2 152 rfl rfl⟩
theorem f_Stp_29 : Fx "WardEngine$Stepper" 29 7 13 := ⟨R_Stp, F_Stp, 15, rfl, rfl, by decide, i_Stp, t_Stp_ok, n_Stp, tk2 153 rfl rfl⟩
theorem f_Stp_36 : Fx "WardEngine$Stepper" 36 5 15 := ⟨R_Mch, F_Mch, 19, rfl, rfl, by decide, i_Mch, t_Mch_ok, n_Mch, tk2 49 rfl rfl⟩
theorem f_Stp_41 : Fx "WardEngine$Stepper" 41 7 3 := ⟨R_Stp, F_Stp, 15, rfl, rfl, by decide, i_Stp, t_Stp_ok, n_Stp, tk2 143 rfl rfl⟩
theorem f_Stp_44 : Fx "WardEngine$Stepper" 44 5 1 := ⟨R_Mch, F_Mch, 19, rfl, rfl, by decide, i_Mch, t_Mch_ok, n_Mch, tk2 12 rfl rfl⟩
theorem f_Stp_54 : Fx "WardEngine$Stepper" 54 7 2 := ⟨R_Stp, F_Stp, 15, rfl, rfl, by decide, i_Stp, t_Stp_ok, n_Stp, tk2 142 rfl rfl⟩
theorem f_Stp_57 : Fx "WardEngine$Stepper" 57 7 4 := ⟨R_Stp, F_Stp, 15, rfl, rfl, by decide, i_Stp, t_Stp_ok, n_Stp, tk2 144 rfl rfl⟩
theorem f_Stp_60 : Fx "WardEngine$Stepper" 60 5 18 := ⟨R_Mch, F_Mch, 19, rfl, rfl, by decide, i_Mch, t_Mch_ok, n_Mch, tk2 59 rfl rfl⟩
theorem f_Stp_70 : Fx "WardEngine$Stepper" 70 5 16 := ⟨R_Mch, F_Mch, 19, rfl, rfl, by decide, i_Mch, t_Mch_ok, n_Mch, tk2 53 rfl rfl⟩
theorem f_Stp_73 : Fx "WardEngine$Stepper" 73 5 8 := ⟨R_Mch, F_Mch, 19, rfl, rfl, by decide, i_Mch, t_Mch_ok, n_Mch, tk2 32 rfl rfl⟩
theorem f_Stp_76 : Fx "WardEngine$Stepper" 76 5 3 := ⟨R_Mch, F_Mch, 19, rfl, rfl, by decide, i_Mch, t_Mch_ok, n_Mch, tk2 17 rfl rfl⟩
theorem f_Stp_83 : Fx "WardEngine$Stepper" 83 5 4 := ⟨R_Mch, F_Mch, 19, rfl, rfl, by decide, i_Mch, t_Mch_ok, n_Mch, tk2 20 rfl rfl⟩
theorem f_Stp_92 : Fx "WardEngine$Stepper" 92 3 5 := ⟨R_Pol, F_Pol, 7, rfl, rfl, by decide, i_Pol, t_Pol_ok, n_Pol, tk1 177 rfl rfl⟩
theorem f_Stp_102 : Fx "WardEngine$Stepper" 102 8 0 := ⟨R_Wrk, F_Wrk, 3, rfl, rfl, by decide, i_Wrk, t_Wrk_ok, n_Wrk, tk2 130 rfl rfl⟩
theorem f_Stp_105 : Fx "WardEngine$Stepper" 105 5 2 := ⟨R_Mch, F_Mch, 19, rfl, rfl, by decide, i_Mch, t_Mch_ok, n_Mch, tk2 14 rfl rfl⟩
theorem f_Stp_112 : Fx "WardEngine$Stepper" 112 3 6 := ⟨R_Pol, F_Pol, 7, rfl, rfl, by decide, i_Pol, t_Pol_ok, n_Pol, tk1 181 rfl rfl⟩
theorem f_Stp_122 : Fx "WardEngine$Stepper" 122 7 5 := ⟨R_Stp, F_Stp, 15, rfl, rfl, by decide, i_Stp, t_Stp_ok, n_Stp, tk2 145 rfl rfl⟩
theorem f_Stp_125 : Fx "WardEngine$Stepper" 125 7 6 := ⟨R_Stp, F_Stp, 15, rfl, rfl, by decide, i_Stp, t_Stp_ok, n_Stp, tk2 146 rfl rfl⟩
theorem f_Stp_128 : Fx "WardEngine$Stepper" 128 7 7 := ⟨R_Stp, F_Stp, 15, rfl, rfl, by decide, i_Stp, t_Stp_ok, n_Stp, tk2 147 rfl rfl⟩
theorem f_Stp_131 : Fx "WardEngine$Stepper" 131 7 8 := ⟨R_Stp, F_Stp, 15, rfl, rfl, by decide, i_Stp, t_Stp_ok, n_Stp, tk2 148 rfl rfl⟩
theorem f_Stp_134 : Fx "WardEngine$Stepper" 134 7 9 := ⟨R_Stp, F_Stp, 15, rfl, rfl, by decide, i_Stp, t_Stp_ok, n_Stp, tk2 149 rfl rfl⟩
theorem f_Stp_144 : Fx "WardEngine$Stepper" 144 5 17 := ⟨R_Mch, F_Mch, 19, rfl, rfl, by decide, i_Mch, t_Mch_ok, n_Mch, tk2 56 rfl rfl⟩
theorem f_Stp_159 : Fx "WardEngine$Stepper" 159 5 9 := ⟨R_Mch, F_Mch, 19, rfl, rfl, by decide, i_Mch, t_Mch_ok, n_Mch, tk2 35 rfl rfl⟩
theorem f_Stp_162 : Fx "WardEngine$Stepper" 162 5 6 := ⟨R_Mch, F_Mch, 19, rfl, rfl, by decide, i_Mch, t_Mch_ok, n_Mch, tk2 26 rfl rfl⟩
theorem f_Stp_169 : Fx "WardEngine$Stepper" 169 5 7 := ⟨R_Mch, F_Mch, 19, rfl, rfl, by decide, i_Mch, t_Mch_ok, n_Mch, tk2 29 rfl rfl⟩
theorem f_Stp_172 : Fx "WardEngine$Stepper" 172 5 11 := ⟨R_Mch, F_Mch, 19, rfl, rfl, by decide, i_Mch, t_Mch_ok, n_Mch, tk2 39 rfl rfl⟩
theorem f_Stp_175 : Fx "WardEngine$Stepper" 175 5 0 := ⟨R_Mch, F_Mch, 19, rfl, rfl, by decide, i_Mch, t_Mch_ok, n_Mch, tk2 10 rfl rfl⟩
theorem f_Stp_189 : Fx "WardEngine$Stepper" 189 7 10 := ⟨R_Stp, F_Stp, 15, rfl, rfl, by decide, i_Stp, t_Stp_ok, n_Stp, tk2 150 rfl rfl⟩
theorem f_Stp_192 : Fx "WardEngine$Stepper" 192 7 14 := ⟨R_Stp, F_Stp, 15, rfl, rfl, by decide, i_Stp, t_Stp_ok, n_Stp, tk2 154 rfl rfl⟩
theorem f_Stp_220 : Fx "WardEngine$Stepper" 220 5 5 := ⟨R_Mch, F_Mch, 19, rfl, rfl, by decide, i_Mch, t_Mch_ok, n_Mch, tk2 23 rfl rfl⟩
theorem f_Wrk_9 : Fx "WardEngine$Worker" 9 8 0 := ⟨R_Wrk, F_Wrk, 3, rfl, rfl, by decide, i_Wrk, t_Wrk_ok, n_Wrk, tk2 128 rfl rfl⟩
theorem f_Wrk_15 : Fx "WardEngine$Worker" 15 8 1 := ⟨R_Wrk, F_Wrk, 3, rfl, rfl, by decide, i_Wrk, t_Wrk_ok, n_Wrk, tk2 131 rfl rfl⟩
theorem f_Wrk_27 : Fx "WardEngine$Worker" 27 8 2 := ⟨R_Wrk, F_Wrk, 3, rfl, rfl, by decide, i_Wrk, t_Wrk_ok, n_Wrk, tk2 132 rfl rfl⟩
theorem f_Wrk_31 : Fx "WardEngine$Worker" 31 3 4 := ⟨R_Pol, F_Pol, 7, rfl, rfl, by decide, i_Pol, t_Pol_ok, n_Pol, tk1 174 rfl rfl⟩
theorem f_Wrk_34 : Fx "WardEngine$Worker" 34 3 1 := ⟨R_Pol, F_Pol, 7, rfl, rfl, by decide, i_Pol, t_Pol_ok, n_Pol, tk1 168 rfl rfl⟩
theorem f_Wrk_43 : Fx "WardEngine$Worker" 43 3 3 := ⟨R_Pol, F_Pol, 7, rfl, rfl, by decide, i_Pol, t_Pol_ok, n_Pol, tk1 172 rfl rfl⟩
theorem f_Wrk_49 : Fx "WardEngine$Worker" 49 3 2 := ⟨R_Pol, F_Pol, 7, rfl, rfl, by decide, i_Pol, t_Pol_ok, n_Pol, tk1 170 rfl rfl⟩
theorem f_Wrk_71 : Fx "WardEngine$Worker" 71 5 13 := ⟨R_Mch, F_Mch, 19, rfl, rfl, by decide, i_Mch, t_Mch_ok, n_Mch, tk2 43 rfl rfl⟩
theorem f_Wrk_80 : Fx "WardEngine$Worker" 80 5 14 := ⟨R_Mch, F_Mch, 19, rfl, rfl, by decide, i_Mch, t_Mch_ok, n_Mch, tk2 46 rfl rfl⟩
theorem f_Cmp_9 : Fx "WardEngine$Comparer" 9 9 1 := ⟨R_Cmp, F_Cmp, 7, rfl, rfl, by decide, i_Cmp, t_Cmp_ok, n_Cmp, tk2 196 rfl rfl⟩
theorem f_Cmp_18 : Fx "WardEngine$Comparer" 18 9 2 := ⟨R_Cmp, F_Cmp, 7, rfl, rfl, by decide, i_Cmp, t_Cmp_ok, n_Cmp, tk2 198 rfl rfl⟩
theorem f_Cmp_22 : Fx "WardEngine$Comparer" 22 9 3 := ⟨R_Cmp, F_Cmp, 7, rfl, rfl, by decide, i_Cmp, t_Cmp_ok, n_Cmp, tk2 199 rfl rfl⟩
theorem f_Cmp_31 : Fx "WardEngine$Comparer" 31 3 5 := ⟨R_Pol, F_Pol, 7, rfl, rfl, by decide, i_Pol, t_Pol_ok, n_Pol, tk1 176 rfl rfl⟩
theorem f_Cmp_34 : Fx "WardEngine$Comparer" 34 3 6 := ⟨R_Pol, F_Pol, 7, rfl, rfl, by decide, i_Pol, t_Pol_ok, n_Pol, tk1 180 rfl rfl⟩
theorem f_Cmp_37 : Fx "WardEngine$Comparer" 37 9 4 := ⟨R_Cmp, F_Cmp, 7, rfl, rfl, by decide, i_Cmp, t_Cmp_ok, n_Cmp, tk2 200 rfl rfl⟩
theorem f_Cmp_41 : Fx "WardEngine$Comparer" 41 9 5 := ⟨R_Cmp, F_Cmp, 7, rfl, rfl, by decide, i_Cmp, t_Cmp_ok, n_Cmp, tk2 201 rfl rfl⟩
theorem f_Cmp_44 : Fx "WardEngine$Comparer" 44 9 6 := ⟨R_Cmp, F_Cmp, 7, rfl, rfl, by decide, i_Cmp, t_Cmp_ok, n_Cmp, tk2 202 rfl rfl⟩
theorem f_Cmp_53 : Fx "WardEngine$Comparer" 53 9 0 := ⟨R_Cmp, F_Cmp, 7, rfl, rfl, by decide, i_Cmp, t_Cmp_ok, n_Cmp, tk2 194 rfl rfl⟩
theorem f_Cmp_57 : Fx "WardEngine$Comparer" 57 8 0 := ⟨R_Wrk, F_Wrk, 3, rfl, rfl, by decide, i_Wrk, t_Wrk_ok, n_Wrk, tk2 129 rfl rfl⟩
theorem f_Mod_7 : Fx "WardEngineModel" 7 10 1 := ⟨R_Mod, F_Mod, 88, rfl, rfl, by decide, i_Mod, t_Mod_ok, n_Mod, tk8 34 rfl rfl⟩
theorem f_Mod_13 : Fx "WardEngineModel" 13 10 3 := ⟨R_Mod, F_Mod, 88, rfl, rfl, by decide, i_Mod, t_Mod_ok, n_Mod, tk8 36 rfl rfl⟩
theorem f_Mod_17 : Fx "WardEngineModel" 17 10 9 := ⟨R_Mod, F_Mod, 88, rfl, rfl, by decide, i_Mod, t_Mod_ok, n_Mod, tk8 42 rfl rfl⟩
theorem f_Mod_20 : Fx "WardEngineModel" 20 10 16 := ⟨R_Mod, F_Mod, 88, rfl, rfl, by decide, i_Mod, t_Mod_ok, n_Mod, tk8 49 rfl rfl⟩
theorem f_Mod_23 : Fx "WardEngineModel" 23 10 17 := ⟨R_Mod, F_Mod, 88, rfl, rfl, by decide, i_Mod, t_Mod_ok, n_Mod, tk8 50 rfl rfl⟩
theorem f_Mod_26 : Fx "WardEngineModel" 26 10 19 := ⟨R_Mod, F_Mod, 88, rfl, rfl, by decide, i_Mod, t_Mod_ok, n_Mod, tk8 52 rfl rfl⟩
theorem f_Mod_29 : Fx "WardEngineModel" 29 10 20 := ⟨R_Mod, F_Mod, 88, rfl, rfl, by decide, i_Mod, t_Mod_ok, n_Mod, tk8 53 rfl rfl⟩
theorem f_Mod_32 : Fx "WardEngineModel" 32 10 21 := ⟨R_Mod, F_Mod, 88, rfl, rfl, by decide, i_Mod, t_Mod_ok, n_Mod, tk8 54 rfl rfl⟩
theorem f_Mod_35 : Fx "WardEngineModel" 35 10 22 := ⟨R_Mod, F_Mod, 88, rfl, rfl, by decide, i_Mod, t_Mod_ok, n_Mod, tk8 55 rfl rfl⟩
theorem f_Mod_38 : Fx "WardEngineModel" 38 10 24 := ⟨R_Mod, F_Mod, 88, rfl, rfl, by decide, i_Mod, t_Mod_ok, n_Mod, tk8 57 rfl rfl⟩
theorem f_Mod_41 : Fx "WardEngineModel" 41 10 25 := ⟨R_Mod, F_Mod, 88, rfl, rfl, by decide, i_Mod, t_Mod_ok, n_Mod, tk8 58 rfl rfl⟩
theorem f_Mod_44 : Fx "WardEngineModel" 44 10 26 := ⟨R_Mod, F_Mod, 88, rfl, rfl, by decide, i_Mod, t_Mod_ok, n_Mod, tk8 59 rfl rfl⟩
theorem f_Mod_47 : Fx "WardEngineModel" 47 10 27 := ⟨R_Mod, F_Mod, 88, rfl, rfl, by decide, i_Mod, t_Mod_ok, n_Mod, tk8 60 rfl rfl⟩
theorem f_Mod_50 : Fx "WardEngineModel" 50 10 30 := ⟨R_Mod, F_Mod, 88, rfl, rfl, by decide, i_Mod, t_Mod_ok, n_Mod, tk8 63 rfl rfl⟩
theorem f_Mod_53 : Fx "WardEngineModel" 53 10 31 := ⟨R_Mod, F_Mod, 88, rfl, rfl, by decide, i_Mod, t_Mod_ok, n_Mod, tk8 64 rfl rfl⟩
theorem f_Mod_56 : Fx "WardEngineModel" 56 10 33 := ⟨R_Mod, F_Mod, 88, rfl, rfl, by decide, i_Mod, t_Mod_ok, n_Mod, tk8 66 rfl rfl⟩
theorem f_Mod_59 : Fx "WardEngineModel" 59 10 35 := ⟨R_Mod, F_Mod, 88, rfl, rfl, by decide, i_Mod, t_Mod_ok, n_Mod, tk8 68 rfl rfl⟩
theorem f_Mod_62 : Fx "WardEngineModel" 62 10 36 := ⟨R_Mod, F_Mod, 88, rfl, rfl, by decide, i_Mod, t_Mod_ok, n_Mod, tk8 69 rfl rfl⟩
theorem f_Mod_65 : Fx "WardEngineModel" 65 10 37 := ⟨R_Mod, F_Mod, 88, rfl, rfl, by decide, i_Mod, t_Mod_ok, n_Mod, tk8 70 rfl rfl⟩
theorem f_Mod_68 : Fx "WardEngineModel" 68 10 38 := ⟨R_Mod, F_Mod, 88, rfl, rfl, by decide, i_Mod, t_Mod_ok, n_Mod, tk8 71 rfl rfl⟩
theorem f_Mod_71 : Fx "WardEngineModel" 71 10 39 := ⟨R_Mod, F_Mod, 88, rfl, rfl, by decide, i_Mod, t_Mod_ok, n_Mod, tk8 72 rfl rfl⟩
theorem f_Mod_74 : Fx "WardEngineModel" 74 10 40 := ⟨R_Mod, F_Mod, 88, rfl, rfl, by decide, i_Mod, t_Mod_ok, n_Mod, tk8 73 rfl rfl⟩
theorem f_Mod_77 : Fx "WardEngineModel" 77 10 41 := ⟨R_Mod, F_Mod, 88, rfl, rfl, by decide, i_Mod, t_Mod_ok, n_Mod, tk8 74 rfl rfl⟩
theorem f_Mod_80 : Fx "WardEngineModel" 80 10 46 := ⟨R_Mod, F_Mod, 88, rfl, rfl, by decide, i_Mod, t_Mod_ok, n_Mod, tk8 79 rfl rfl⟩
theorem f_Mod_83 : Fx "WardEngineModel" 83 10 47 := ⟨R_Mod, F_Mod, 88, rfl, rfl, by decide, i_Mod, t_Mod_ok, n_Mod, tk8 80 rfl rfl⟩
theorem f_Mod_86 : Fx "WardEngineModel" 86 10 49 := ⟨R_Mod, F_Mod, 88, rfl, rfl, by decide, i_Mod, t_Mod_ok, n_Mod, tk8 82 rfl rfl⟩
theorem f_Mod_89 : Fx "WardEngineModel" 89 10 56 := ⟨R_Mod, F_Mod, 88, rfl, rfl, by decide, i_Mod, t_Mod_ok, n_Mod, tk8 89 rfl rfl⟩
theorem f_Mod_92 : Fx "WardEngineModel" 92 10 57 := ⟨R_Mod, F_Mod, 88, rfl, rfl, by decide, i_Mod, t_Mod_ok, n_Mod, tk8 90 rfl rfl⟩
theorem f_Mod_95 : Fx "WardEngineModel" 95 10 60 := ⟨R_Mod, F_Mod, 88, rfl, rfl, by decide, i_Mod, t_Mod_ok, n_Mod, tk8 93 rfl rfl⟩
theorem f_Mod_98 : Fx "WardEngineModel" 98 10 61 := ⟨R_Mod, F_Mod, 88, rfl, rfl, by decide, i_Mod, t_Mod_ok, n_Mod, tk8 94 rfl rfl⟩
theorem f_Mod_101 : Fx "WardEngineModel" 101 10 62 := ⟨R_Mod, F_Mod, 88, rfl, rfl, by decide, i_Mod, t_Mod_ok, n_Mod, tk8 95 rfl rfl⟩
theorem f_Mod_104 : Fx "WardEngineModel" 104 10 64 := ⟨R_Mod, F_Mod, 88, rfl, rfl, by decide, i_Mod, t_Mod_ok, n_Mod, tk8 97 rfl rfl⟩
theorem f_Mod_107 : Fx "WardEngineModel" 107 10 65 := ⟨R_Mod, F_Mod, 88, rfl, rfl, by decide, i_Mod, t_Mod_ok, n_Mod, tk8 98 rfl rfl⟩
theorem f_Mod_110 : Fx "WardEngineModel" 110 10 66 := ⟨R_Mod, F_Mod, 88, rfl, rfl, by decide, i_Mod, t_Mod_ok, n_Mod, tk8 99 rfl rfl⟩
theorem f_Mod_114 : Fx "WardEngineModel" 114 10 68 := ⟨R_Mod, F_Mod, 88, rfl, rfl, by decide, i_Mod, t_Mod_ok, n_Mod, tk8 101 rfl rfl⟩
theorem f_Mod_117 : Fx "WardEngineModel" 117 10 70 := ⟨R_Mod, F_Mod, 88, rfl, rfl, by decide, i_Mod, t_Mod_ok, n_Mod, tk8 103 rfl rfl⟩
theorem f_Mod_120 : Fx "WardEngineModel" 120 10 72 := ⟨R_Mod, F_Mod, 88, rfl, rfl, by decide, i_Mod, t_Mod_ok, n_Mod, tk8 105 rfl rfl⟩
theorem f_Mod_123 : Fx "WardEngineModel" 123 10 73 := ⟨R_Mod, F_Mod, 88, rfl, rfl, by decide, i_Mod, t_Mod_ok, n_Mod, tk8 106 rfl rfl⟩
theorem f_Mod_126 : Fx "WardEngineModel" 126 10 74 := ⟨R_Mod, F_Mod, 88, rfl, rfl, by decide, i_Mod, t_Mod_ok, n_Mod, tk8 107 rfl rfl⟩
theorem f_Mod_129 : Fx "WardEngineModel" 129 10 87 := ⟨R_Mod, F_Mod, 88, rfl, rfl, by decide, i_Mod, t_Mod_ok, n_Mod, tk8 120 rfl rfl⟩
theorem f_Mod_240 : Fx "WardEngineModel" 240 10 0 := ⟨R_Mod, F_Mod, 88, rfl, rfl, by decide, i_Mod, t_Mod_ok, n_Mod, tk8 33 rfl rfl⟩
theorem f_Mod_247 : Fx "WardEngineModel" 247 10 2 := ⟨R_Mod, F_Mod, 88, rfl, rfl, by decide, i_Mod, t_Mod_ok, n_Mod, tk8 35 rfl rfl⟩
theorem f_Mod_260 : Fx "WardEngineModel" 260 10 13 := ⟨R_Mod, F_Mod, 88, rfl, rfl, by decide, i_Mod, t_Mod_ok, n_Mod, tk8 46 rfl rfl⟩
theorem f_Mod_263 : Fx "WardEngineModel" 263 10 12 := ⟨R_Mod, F_Mod, 88, rfl, rfl, by decide, i_Mod, t_Mod_ok, n_Mod, tk8 45 rfl rfl⟩
theorem f_Mod_270 : Fx "WardEngineModel" 270 10 10 := ⟨R_Mod, F_Mod, 88, rfl, rfl, by decide, i_Mod, t_Mod_ok, n_Mod, tk8 43 rfl rfl⟩
theorem f_Mod_273 : Fx "WardEngineModel" 273 10 11 := ⟨R_Mod, F_Mod, 88, rfl, rfl, by decide, i_Mod, t_Mod_ok, n_Mod, tk8 44 rfl rfl⟩
theorem f_Mod_280 : Fx "WardEngineModel" 280 10 14 := ⟨R_Mod, F_Mod, 88, rfl, rfl, by decide, i_Mod, t_Mod_ok, n_Mod, tk8 47 rfl rfl⟩
theorem f_Mod_292 : Fx "WardEngineModel" 292 10 15 := ⟨R_Mod, F_Mod, 88, rfl, rfl, by decide, i_Mod, t_Mod_ok, n_Mod, tk8 48 rfl rfl⟩
theorem f_Mod_295 : Fx "WardEngineModel" 295 10 28 := ⟨R_Mod, F_Mod, 88, rfl, rfl, by decide, i_Mod, t_Mod_ok, n_Mod, tk8 61 rfl rfl⟩
theorem f_Mod_298 : Fx "WardEngineModel" 298 10 29 := ⟨R_Mod, F_Mod, 88, rfl, rfl, by decide, i_Mod, t_Mod_ok, n_Mod, tk8 62 rfl rfl⟩
theorem f_Mod_331 : Fx "WardEngineModel" 331 10 23 := ⟨R_Mod, F_Mod, 88, rfl, rfl, by decide, i_Mod, t_Mod_ok, n_Mod, tk8 56 rfl rfl⟩
theorem f_Mod_349 : Fx "WardEngineModel" 349 10 18 := ⟨R_Mod, F_Mod, 88, rfl, rfl, by decide, i_Mod, t_Mod_ok, n_Mod, tk8 51 rfl rfl⟩
theorem f_Mod_367 : Fx "WardEngineModel" 367 10 32 := ⟨R_Mod, F_Mod, 88, rfl, rfl, by decide, i_Mod, t_Mod_ok, n_Mod, tk8 65 rfl rfl⟩
theorem f_Mod_376 : Fx "WardEngineModel" 376 10 58 := ⟨R_Mod, F_Mod, 88, rfl, rfl, by decide, i_Mod, t_Mod_ok, n_Mod, tk8 91 rfl rfl⟩
theorem f_Mod_379 : Fx "WardEngineModel" 379 10 59 := ⟨R_Mod, F_Mod, 88, rfl, rfl, by decide, i_Mod, t_Mod_ok, n_Mod, tk8 92 rfl rfl⟩
theorem f_Mod_382 : Fx "WardEngineModel" 382 10 53 := ⟨R_Mod, F_Mod, 88, rfl, rfl, by decide, i_Mod, t_Mod_ok, n_Mod, tk8 86 rfl rfl⟩
theorem f_Mod_385 : Fx "WardEngineModel" 385 10 54 := ⟨R_Mod, F_Mod, 88, rfl, rfl, by decide, i_Mod, t_Mod_ok, n_Mod, tk8 87 rfl rfl⟩
theorem f_Mod_388 : Fx "WardEngineModel" 388 10 34 := ⟨R_Mod, F_Mod, 88, rfl, rfl, by decide, i_Mod, t_Mod_ok, n_Mod, tk8 67 rfl rfl⟩
theorem f_Mod_391 : Fx "WardEngineModel" 391 10 42 := ⟨R_Mod, F_Mod, 88, rfl, rfl, by decide, i_Mod, t_Mod_ok, n_Mod, tk8 75 rfl rfl⟩
theorem f_Mod_394 : Fx "WardEngineModel" 394 10 43 := ⟨R_Mod, F_Mod, 88, rfl, rfl, by decide, i_Mod, t_Mod_ok, n_Mod, tk8 76 rfl rfl⟩
theorem f_Mod_397 : Fx "WardEngineModel" 397 10 44 := ⟨R_Mod, F_Mod, 88, rfl, rfl, by decide, i_Mod, t_Mod_ok, n_Mod, tk8 77 rfl rfl⟩
theorem f_Mod_400 : Fx "WardEngineModel" 400 10 45 := ⟨R_Mod, F_Mod, 88, rfl, rfl, by decide, i_Mod, t_Mod_ok, n_Mod, tk8 78 rfl rfl⟩
theorem f_Mod_403 : Fx "WardEngineModel" 403 10 48 := ⟨R_Mod, F_Mod, 88, rfl, rfl, by decide, i_Mod, t_Mod_ok, n_Mod, tk8 81 rfl rfl⟩
theorem f_Mod_406 : Fx "WardEngineModel" 406 10 50 := ⟨R_Mod, F_Mod, 88, rfl, rfl, by decide, i_Mod, t_Mod_ok, n_Mod, tk8 83 rfl rfl⟩
theorem f_Mod_409 : Fx "WardEngineModel" 409 10 51 := ⟨R_Mod, F_Mod, 88, rfl, rfl, by decide, i_Mod, t_Mod_ok, n_Mod, tk8 84 rfl rfl⟩
theorem f_Mod_412 : Fx "WardEngineModel" 412 10 52 := ⟨R_Mod, F_Mod, 88, rfl, rfl, by decide, i_Mod, t_Mod_ok, n_Mod, tk8 85 rfl rfl⟩
theorem f_Mod_415 : Fx "WardEngineModel" 415 10 55 := ⟨R_Mod, F_Mod, 88, rfl, rfl, by decide, i_Mod, t_Mod_ok, n_Mod, tk8 88 rfl rfl⟩
theorem f_Mod_418 : Fx "WardEngineModel" 418 10 63 := ⟨R_Mod, F_Mod, 88, rfl, rfl, by decide, i_Mod, t_Mod_ok, n_Mod, tk8 96 rfl rfl⟩
theorem f_Mod_424 : Fx "WardEngineModel" 424 10 7 := ⟨R_Mod, F_Mod, 88, rfl, rfl, by decide, i_Mod, t_Mod_ok, n_Mod, tk8 40 rfl rfl⟩
theorem f_Mod_435 : Fx "WardEngineModel" 435 10 4 := ⟨R_Mod, F_Mod, 88, rfl, rfl, by decide, i_Mod, t_Mod_ok, n_Mod, tk8 37 rfl rfl⟩
theorem f_Mod_438 : Fx "WardEngineModel" 438 10 6 := ⟨R_Mod, F_Mod, 88, rfl, rfl, by decide, i_Mod, t_Mod_ok, n_Mod, tk8 39 rfl rfl⟩
theorem f_Mod_445 : Fx "WardEngineModel" 445 10 5 := ⟨R_Mod, F_Mod, 88, rfl, rfl, by decide, i_Mod, t_Mod_ok, n_Mod, tk8 38 rfl rfl⟩
theorem f_Mod_463 : Fx "WardEngineModel" 463 10 8 := ⟨R_Mod, F_Mod, 88, rfl, rfl, by decide, i_Mod, t_Mod_ok, n_Mod, tk8 41 rfl rfl⟩
theorem f_Mod_489 : Fx "WardEngineModel" 489 10 69 := ⟨R_Mod, F_Mod, 88, rfl, rfl, by decide, i_Mod, t_Mod_ok, n_Mod, tk8 102 rfl rfl⟩
theorem f_Mod_492 : Fx "WardEngineModel" 492 10 75 := ⟨R_Mod, F_Mod, 88, rfl, rfl, by decide, i_Mod, t_Mod_ok, n_Mod, tk8 108 rfl rfl⟩
theorem f_Mod_495 : Fx "WardEngineModel" 495 10 76 := ⟨R_Mod, F_Mod, 88, rfl, rfl, by decide, i_Mod, t_Mod_ok, n_Mod, tk8 109 rfl rfl⟩
theorem f_Mod_498 : Fx "WardEngineModel" 498 10 77 := ⟨R_Mod, F_Mod, 88, rfl, rfl, by decide, i_Mod, t_Mod_ok, n_Mod, tk8 110 rfl rfl⟩
theorem f_Mod_501 : Fx "WardEngineModel" 501 10 78 := ⟨R_Mod, F_Mod, 88, rfl, rfl, by decide, i_Mod, t_Mod_ok, n_Mod, tk8 111 rfl rfl⟩
theorem f_Mod_504 : Fx "WardEngineModel" 504 10 81 := ⟨R_Mod, F_Mod, 88, rfl, rfl, by decide, i_Mod, t_Mod_ok, n_Mod, tk8 114 rfl rfl⟩
theorem f_Mod_507 : Fx "WardEngineModel" 507 10 80 := ⟨R_Mod, F_Mod, 88, rfl, rfl, by decide, i_Mod, t_Mod_ok, n_Mod, tk8 113 rfl rfl⟩
theorem f_Mod_510 : Fx "WardEngineModel" 510 10 79 := ⟨R_Mod, F_Mod, 88, rfl, rfl, by decide, i_Mod, t_Mod_ok, n_Mod, tk8 112 rfl rfl⟩
theorem f_Mod_514 : Fx "WardEngineModel" 514 10 82 := ⟨R_Mod, F_Mod, 88, rfl, rfl, by decide, i_Mod, t_Mod_ok, n_Mod, tk8 115 rfl rfl⟩
theorem f_Mod_527 : Fx "WardEngineModel" 527 10 86 := ⟨R_Mod, F_Mod, 88, rfl, rfl, by decide, i_Mod, t_Mod_ok, n_Mod, tk8 119 rfl rfl⟩
theorem f_Mod_546 : Fx "WardEngineModel" 546 10 83 := ⟨R_Mod, F_Mod, 88, rfl, rfl, by decide, i_Mod, t_Mod_ok, n_Mod, tk8 116 rfl rfl⟩
theorem f_Mod_549 : Fx "WardEngineModel" 549 10 84 := ⟨R_Mod, F_Mod, 88, rfl, rfl, by decide, i_Mod, t_Mod_ok, n_Mod, tk8 117 rfl rfl⟩
theorem f_Mod_552 : Fx "WardEngineModel" 552 10 85 := ⟨R_Mod, F_Mod, 88, rfl, rfl, by decide, i_Mod, t_Mod_ok, n_Mod, tk8 118 rfl rfl⟩
theorem f_Mod_558 : Fx "WardEngineModel" 558 10 67 := ⟨R_Mod, F_Mod, 88, rfl, rfl, by decide, i_Mod, t_Mod_ok, n_Mod, tk8 100 rfl rfl⟩
theorem f_Mod_602 : Fx "WardEngineModel" 602 10 71 := ⟨R_Mod, F_Mod, 88, rfl, rfl, by decide, i_Mod, t_Mod_ok, n_Mod, tk8 104 rfl rfl⟩
theorem fm_Eng_7 : Fm 0 7 := fun _ _ _ h => by cases h; rfl
theorem fm_Eng_8 : Fm 0 8 := fun _ _ _ h => by cases h; rfl
theorem fm_Eng_9 : Fm 0 9 := fun _ _ _ h => by cases h; rfl
theorem fm_Rdr_0 : Fm 1 0 := fun _ _ _ h => by cases h; rfl
theorem fm_Rdr_1 : Fm 1 1 := fun _ _ _ h => by cases h; rfl
theorem fm_Rdr_2 : Fm 1 2 := fun _ _ _ h => by cases h; rfl
theorem fm_Rdr_3 : Fm 1 3 := fun _ _ _ h => by cases h; rfl
theorem fm_Rdr_4 : Fm 1 4 := fun _ _ _ h => by cases h; rfl
theorem fm_Rdr_5 : Fm 1 5 := fun _ _ _ h => by cases h; rfl
theorem fm_Prd_1 : Fm 2 1 := fun _ _ _ h => by cases h; rfl
theorem fm_Prd_2 : Fm 2 2 := fun _ _ _ h => by cases h; rfl
theorem fm_Prd_3 : Fm 2 3 := fun _ _ _ h => by cases h; rfl
theorem fm_Prd_4 : Fm 2 4 := fun _ _ _ h => by cases h; rfl
theorem fm_Pol_0 : Fm 3 0 := fun _ _ _ h => by cases h; rfl
theorem fm_Img_1 : Fm 4 1 := fun _ _ _ h => by cases h; rfl
theorem fm_Img_2 : Fm 4 2 := fun _ _ _ h => by cases h; rfl
theorem fm_Img_3 : Fm 4 3 := fun _ _ _ h => by cases h; rfl
theorem fm_Img_4 : Fm 4 4 := fun _ _ _ h => by cases h; rfl
theorem fm_Mch_0 : Fm 5 0 := fun _ _ _ h => by cases h; rfl
theorem fm_Mch_1 : Fm 5 1 := fun _ _ _ h => by cases h; rfl
theorem fm_Mch_2 : Fm 5 2 := fun _ _ _ h => by cases h; rfl
theorem fm_Rng_0 : Fm 6 0 := fun _ _ _ h => by cases h; rfl
theorem fm_Rng_1 : Fm 6 1 := fun _ _ _ h => by cases h; rfl
theorem fm_Stp_2 : Fm 7 2 := fun _ _ _ h => by cases h; rfl
theorem fm_Stp_3 : Fm 7 3 := fun _ _ _ h => by cases h; rfl
theorem fm_Stp_4 : Fm 7 4 := fun _ _ _ h => by cases h; rfl
theorem fm_Stp_5 : Fm 7 5 := fun _ _ _ h => by cases h; rfl
theorem fm_Stp_6 : Fm 7 6 := fun _ _ _ h => by cases h; rfl
theorem fm_Stp_7 : Fm 7 7 := fun _ _ _ h => by cases h; rfl
theorem fm_Stp_8 : Fm 7 8 := fun _ _ _ h => by cases h; rfl
theorem fm_Stp_9 : Fm 7 9 := fun _ _ _ h => by cases h; rfl
theorem fm_Stp_10 : Fm 7 10 := fun _ _ _ h => by cases h; rfl
theorem fm_Stp_11 : Fm 7 11 := fun _ _ _ h => by cases h; rfl
theorem fm_Stp_12 : Fm 7 12 := fun _ _ _ h => by cases h; rfl
theorem fm_Stp_13 : Fm 7 13 := fun _ _ _ h => by cases h; rfl
theorem fm_Stp_14 : Fm 7 14 := fun _ _ _ h => by cases h; rfl
theorem fm_Wrk_2 : Fm 8 2 := fun _ _ _ h => by cases h; rfl
theorem fm_Cmp_0 : Fm 9 0 := fun _ _ _ h => by cases h; rfl
theorem fm_Cmp_4 : Fm 9 4 := fun _ _ _ h => by cases h; rfl
theorem fm_Cmp_5 : Fm 9 5 := fun _ _ _ h => by cases h; rfl
theorem fm_Cmp_6 : Fm 9 6 := fun _ _ _ h => by cases h; rfl
theorem fm_Mod_0 : Fm 10 0 := fun _ _ _ h => by cases h; rfl
theorem fm_Mod_2 : Fm 10 2 := fun _ _ _ h => by cases h; rfl
theorem fm_Mod_4 : Fm 10 4 := fun _ _ _ h => by cases h; rfl
theorem fm_Mod_5 : Fm 10 5 := fun _ _ _ h => by cases h; rfl
theorem fm_Mod_6 : Fm 10 6 := fun _ _ _ h => by cases h; rfl
theorem fm_Mod_7 : Fm 10 7 := fun _ _ _ h => by cases h; rfl
theorem fm_Mod_8 : Fm 10 8 := fun _ _ _ h => by cases h; rfl
theorem fm_Mod_10 : Fm 10 10 := fun _ _ _ h => by cases h; rfl
theorem fm_Mod_11 : Fm 10 11 := fun _ _ _ h => by cases h; rfl
theorem fm_Mod_12 : Fm 10 12 := fun _ _ _ h => by cases h; rfl
theorem fm_Mod_13 : Fm 10 13 := fun _ _ _ h => by cases h; rfl
theorem fm_Mod_14 : Fm 10 14 := fun _ _ _ h => by cases h; rfl
theorem fm_Mod_15 : Fm 10 15 := fun _ _ _ h => by cases h; rfl
theorem fm_Mod_18 : Fm 10 18 := fun _ _ _ h => by cases h; rfl
theorem fm_Mod_23 : Fm 10 23 := fun _ _ _ h => by cases h; rfl
theorem fm_Mod_28 : Fm 10 28 := fun _ _ _ h => by cases h; rfl
theorem fm_Mod_29 : Fm 10 29 := fun _ _ _ h => by cases h; rfl
theorem fm_Mod_32 : Fm 10 32 := fun _ _ _ h => by cases h; rfl
theorem fm_Mod_34 : Fm 10 34 := fun _ _ _ h => by cases h; rfl
theorem fm_Mod_42 : Fm 10 42 := fun _ _ _ h => by cases h; rfl
theorem fm_Mod_43 : Fm 10 43 := fun _ _ _ h => by cases h; rfl
theorem fm_Mod_44 : Fm 10 44 := fun _ _ _ h => by cases h; rfl
theorem fm_Mod_45 : Fm 10 45 := fun _ _ _ h => by cases h; rfl
theorem fm_Mod_48 : Fm 10 48 := fun _ _ _ h => by cases h; rfl
theorem fm_Mod_50 : Fm 10 50 := fun _ _ _ h => by cases h; rfl
theorem fm_Mod_51 : Fm 10 51 := fun _ _ _ h => by cases h; rfl
theorem fm_Mod_52 : Fm 10 52 := fun _ _ _ h => by cases h; rfl
theorem fm_Mod_53 : Fm 10 53 := fun _ _ _ h => by cases h; rfl
theorem fm_Mod_54 : Fm 10 54 := fun _ _ _ h => by cases h; rfl
theorem fm_Mod_55 : Fm 10 55 := fun _ _ _ h => by cases h; rfl
theorem fm_Mod_58 : Fm 10 58 := fun _ _ _ h => by cases h; rfl
theorem fm_Mod_59 : Fm 10 59 := fun _ _ _ h => by cases h; rfl
theorem fm_Mod_63 : Fm 10 63 := fun _ _ _ h => by cases h; rfl
theorem fm_Mod_66 : Fm 10 66 := fun _ _ _ h => by cases h; rfl
theorem fm_Mod_67 : Fm 10 67 := fun _ _ _ h => by cases h; rfl
theorem fm_Mod_68 : Fm 10 68 := fun _ _ _ h => by cases h; rfl
theorem fm_Mod_69 : Fm 10 69 := fun _ _ _ h => by cases h; rfl
theorem fm_Mod_71 : Fm 10 71 := fun _ _ _ h => by cases h; rfl
theorem fm_Mod_75 : Fm 10 75 := fun _ _ _ h => by cases h; rfl
theorem fm_Mod_76 : Fm 10 76 := fun _ _ _ h => by cases h; rfl
theorem fm_Mod_77 : Fm 10 77 := fun _ _ _ h => by cases h; rfl
theorem fm_Mod_78 : Fm 10 78 := fun _ _ _ h => by cases h; rfl
theorem fm_Mod_79 : Fm 10 79 := fun _ _ _ h => by cases h; rfl
theorem fm_Mod_80 : Fm 10 80 := fun _ _ _ h => by cases h; rfl
theorem fm_Mod_81 : Fm 10 81 := fun _ _ _ h => by cases h; rfl
theorem fm_Mod_82 : Fm 10 82 := fun _ _ _ h => by cases h; rfl
theorem fm_Mod_83 : Fm 10 83 := fun _ _ _ h => by cases h; rfl
theorem fm_Mod_84 : Fm 10 84 := fun _ _ _ h => by cases h; rfl
theorem fm_Mod_85 : Fm 10 85 := fun _ _ _ h => by cases h; rfl
theorem fm_Mod_86 : Fm 10 86 := fun _ _ _ h => by cases h; rfl
theorem s_Eng_73 : CS "WardEngine" 73 m_Rdr_mayStand 1 := ⟨⟨by decide, by decide, by decide +kernel⟩, tk4 127 rfl rfl, tk4 128 rfl rfl, tk1 2 rfl rfl, tk4 129 rfl rfl, by decide⟩
theorem v_Eng_93 : CV "WardEngine" 93 "WardEngine$Reader" m_Rdr_append 1 := ⟨⟨rfl, by decide, by decide, by decide +kernel⟩, tk4 216 rfl rfl, tk4 217 rfl rfl, tk4 218 rfl rfl, tk1 2 rfl rfl, tk4 219 rfl rfl, by decide⟩
theorem v_Eng_99 : CV "WardEngine" 99 "WardEngine$PolicyReader" m_Prd_read 0 := ⟨⟨rfl, by decide, by decide, by decide +kernel⟩, tk3 48 rfl rfl, tk3 49 rfl rfl, tk3 50 rfl rfl, tk1 7 rfl rfl, tk3 51 rfl rfl, by decide⟩
theorem v_Eng_103 : CV "WardEngine" 103 "WardEngine$PolicyReader" m_Prd_exchange 1 := ⟨⟨rfl, by decide, by decide, by decide +kernel⟩, tk3 212 rfl rfl, tk3 213 rfl rfl, tk3 214 rfl rfl, tk1 7 rfl rfl, tk3 215 rfl rfl, by decide⟩
theorem v_Eng_107 : CV "WardEngine" 107 "WardEngine$Machine" m_Mch_forgetAnswers 0 := ⟨⟨rfl, by decide, by decide, by decide +kernel⟩, tk3 216 rfl rfl, tk3 217 rfl rfl, tk3 218 rfl rfl, tk1 11 rfl rfl, tk3 219 rfl rfl, by decide⟩
theorem v_Eng_110 : CV "WardEngine" 110 "WardEngine$ImageReader" m_Img_read 0 := ⟨⟨rfl, by decide, by decide, by decide +kernel⟩, tk3 228 rfl rfl, tk3 229 rfl rfl, tk3 230 rfl rfl, tk1 10 rfl rfl, tk3 231 rfl rfl, by decide⟩
theorem v_Eng_111 : CV "WardEngine" 111 "WardEngine$ImageReader" m_Img_exchange 1 := ⟨⟨rfl, by decide, by decide, by decide +kernel⟩, tk4 72 rfl rfl, tk4 73 rfl rfl, tk4 74 rfl rfl, tk1 10 rfl rfl, tk4 75 rfl rfl, by decide⟩
theorem v_Eng_126 : CV "WardEngine" 126 "WardEngine" m_Eng_writeListing 2 := ⟨⟨rfl, by decide, by decide, by decide +kernel⟩, tk5 12 rfl rfl, tk5 14 rfl rfl, tb_sel 27 (by decide +kernel) rfl, tk1 1 rfl rfl, tk5 15 rfl rfl, by decide⟩
theorem v_Eng_140 : CV "WardEngine" 140 "WardEngine$Machine" m_Mch_restart 1 := ⟨⟨rfl, by decide, by decide, by decide +kernel⟩, tk4 80 rfl rfl, tk3 233 rfl rfl, tk3 234 rfl rfl, tk1 11 rfl rfl, tk3 235 rfl rfl, by decide⟩
theorem v_Eng_143 : CV "WardEngine" 143 "WardEngine$Machine" m_Mch_setCode 3 := ⟨⟨rfl, by decide, by decide, by decide +kernel⟩, tk6 69 rfl rfl, tk4 33 rfl rfl, tk4 34 rfl rfl, tk1 11 rfl rfl, tk4 35 rfl rfl, by decide⟩
theorem v_Eng_149 : CV "WardEngine" 149 "WardEngine$Machine" m_Mch_setWord 4 := ⟨⟨rfl, by decide, by decide, by decide +kernel⟩, tk6 78 rfl rfl, tk4 49 rfl rfl, tk4 50 rfl rfl, tk1 11 rfl rfl, tk4 51 rfl rfl, by decide⟩
theorem v_Eng_155 : CV "WardEngine" 155 "WardEngine$Machine" m_Mch_setRegister 3 := ⟨⟨rfl, by decide, by decide, by decide +kernel⟩, tk6 87 rfl rfl, tk4 61 rfl rfl, tk4 62 rfl rfl, tk1 11 rfl rfl, tk4 63 rfl rfl, by decide⟩
theorem v_Eng_163 : CV "WardEngine" 163 "WardEngine$Machine" m_Mch_addInput 2 := ⟨⟨rfl, by decide, by decide, by decide +kernel⟩, tk6 96 rfl rfl, tk4 69 rfl rfl, tk4 70 rfl rfl, tk1 11 rfl rfl, tk4 71 rfl rfl, by decide⟩
theorem v_Eng_173 : CV "WardEngine" 173 "WardEngine$Stepper" m_Stp_attempt 2 := ⟨⟨rfl, by decide, by decide, by decide +kernel⟩, tk6 122 rfl rfl, tk6 123 rfl rfl, tk6 124 rfl rfl, tk1 13 rfl rfl, tk6 125 rfl rfl, by decide⟩
theorem v_Eng_208 : CV "WardEngine" 208 "WardEngine$Machine" m_Mch_keptOutputs 0 := ⟨⟨rfl, by decide, by decide, by decide +kernel⟩, tk7 72 rfl rfl, tk7 73 rfl rfl, tk7 74 rfl rfl, tk1 11 rfl rfl, tk7 75 rfl rfl, by decide⟩
theorem v_Eng_236 : CV "WardEngine" 236 "WardEngine$Ring" m_Rng_cell 2 := ⟨⟨rfl, by decide, by decide, by decide +kernel⟩, tk7 103 rfl rfl, tk7 104 rfl rfl, tk7 105 rfl rfl, tk1 12 rfl rfl, tk7 106 rfl rfl, by decide⟩
theorem v_Eng_249 : CV "WardEngine" 249 "WardEngine$Policy" m_Pol_become 1 := ⟨⟨rfl, by decide, by decide, by decide +kernel⟩, tk4 89 rfl rfl, tk4 90 rfl rfl, tk4 91 rfl rfl, tk1 8 rfl rfl, tk4 92 rfl rfl, by decide⟩
theorem v_Eng_255 : CV "WardEngine" 255 "WardEngine$Policy" m_Pol_mayBeCompared 1 := ⟨⟨rfl, by decide, by decide, by decide +kernel⟩, tk7 132 rfl rfl, tk6 160 rfl rfl, tk6 161 rfl rfl, tk1 8 rfl rfl, tk6 162 rfl rfl, by decide⟩
theorem s_Eng_260 : CS "WardEngine" 260 m_Cmp_variedNames 3 := ⟨⟨by decide, by decide, by decide +kernel⟩, tk7 134 rfl rfl, tk7 135 rfl rfl, tk1 15 rfl rfl, tk7 136 rfl rfl, by decide⟩
theorem s_Eng_264 : CS "WardEngine" 264 m_Cmp_casesOf 2 := ⟨⟨by decide, by decide, by decide +kernel⟩, tk7 138 rfl rfl, tk7 139 rfl rfl, tk1 15 rfl rfl, tk7 140 rfl rfl, by decide⟩
theorem v_Eng_269 : CV "WardEngine" 269 "WardEngine$Comparer" m_Cmp_startCases 3 := ⟨⟨rfl, by decide, by decide, by decide +kernel⟩, tk7 142 rfl rfl, tk7 143 rfl rfl, tk7 144 rfl rfl, tk1 15 rfl rfl, tk7 145 rfl rfl, by decide⟩
theorem v_Eng_272 : CV "WardEngine" 272 "WardEngine$Comparer" m_Cmp_firstUnlikeCase 4 := ⟨⟨rfl, by decide, by decide, by decide +kernel⟩, tk7 147 rfl rfl, tk7 148 rfl rfl, tk7 149 rfl rfl, tk1 15 rfl rfl, tk7 150 rfl rfl, by decide⟩
theorem v_Eng_287 : CV "WardEngine" 287 "WardEngine$Machine" m_Mch_become 1 := ⟨⟨rfl, by decide, by decide, by decide +kernel⟩, tk4 104 rfl rfl, tk4 105 rfl rfl, tk4 106 rfl rfl, tk1 11 rfl rfl, tk4 107 rfl rfl, by decide⟩
theorem v_Eng_290 : CV "WardEngine" 290 "WardEngine$Machine" m_Mch_unlikeCode 1 := ⟨⟨rfl, by decide, by decide, by decide +kernel⟩, tk7 180 rfl rfl, tk7 181 rfl rfl, tk7 182 rfl rfl, tk1 11 rfl rfl, tk7 183 rfl rfl, by decide⟩
theorem v_Eng_294 : CV "WardEngine" 294 "WardEngine$Machine" m_Mch_unlikeWords 1 := ⟨⟨rfl, by decide, by decide, by decide +kernel⟩, tk7 191 rfl rfl, tk7 192 rfl rfl, tk7 193 rfl rfl, tk1 11 rfl rfl, tk7 194 rfl rfl, by decide⟩
theorem v_Eng_297 : CV "WardEngine" 297 "WardEngine$Machine" m_Mch_unlikeRegisters 1 := ⟨⟨rfl, by decide, by decide, by decide +kernel⟩, tk7 195 rfl rfl, tk7 196 rfl rfl, tk7 197 rfl rfl, tk1 11 rfl rfl, tk7 198 rfl rfl, by decide⟩
theorem v_Eng_300 : CV "WardEngine" 300 "WardEngine$Machine" m_Mch_unlikeOutputs 1 := ⟨⟨rfl, by decide, by decide, by decide +kernel⟩, tk7 199 rfl rfl, tk7 200 rfl rfl, tk7 201 rfl rfl, tk1 11 rfl rfl, tk7 202 rfl rfl, by decide⟩
theorem v_Eng_308 : CV "WardEngine" 308 "WardEngine" m_Eng_writeKind 1 := ⟨⟨rfl, by decide, by decide, by decide +kernel⟩, tk6 10 rfl rfl, tk6 12 rfl rfl, tb_sel 28 (by decide +kernel) rfl, tk1 1 rfl rfl, tk6 13 rfl rfl, by decide⟩
theorem v_Eng_321 : CV "WardEngine" 321 "WardEngine" m_Eng_writeField 2 := ⟨⟨rfl, by decide, by decide, by decide +kernel⟩, tk6 34 rfl rfl, tk6 36 rfl rfl, tb_sel 29 (by decide +kernel) rfl, tk1 1 rfl rfl, tk6 37 rfl rfl, by decide⟩
theorem s_Rdr_31 : CS "WardEngine$Reader" 31 m_Rdr_packWords 3 := ⟨⟨by decide, by decide, by decide +kernel⟩, tk1 48 rfl rfl, tk1 49 rfl rfl, tk1 2 rfl rfl, tk1 50 rfl rfl, by decide⟩
theorem v_Rdr_46 : CV "WardEngine$Reader" 46 "WardEngine$Reader" m_Rdr_skipBlanks 0 := ⟨⟨rfl, by decide, by decide, by decide +kernel⟩, tk3 60 rfl rfl, tk3 62 rfl rfl, tb_sel 0 (by decide +kernel) rfl, tk1 2 rfl rfl, tk3 63 rfl rfl, by decide⟩
theorem v_Rdr_49 : CV "WardEngine$Reader" 49 "WardEngine$Reader" m_Rdr_readToken 0 := ⟨⟨rfl, by decide, by decide, by decide +kernel⟩, tk3 64 rfl rfl, tk3 66 rfl rfl, tb_sel 1 (by decide +kernel) rfl, tk1 2 rfl rfl, tk3 67 rfl rfl, by decide⟩
theorem v_Rdr_59 : CV "WardEngine$Reader" 59 "WardEngine$Reader" m_Rdr_advance 0 := ⟨⟨rfl, by decide, by decide, by decide +kernel⟩, tk3 146 rfl rfl, tk3 147 rfl rfl, tk3 148 rfl rfl, tk1 2 rfl rfl, tk3 149 rfl rfl, by decide⟩
theorem s_Rdr_68 : CS "WardEngine$Reader" 68 m_Rdr_isLetter 1 := ⟨⟨by decide, by decide, by decide +kernel⟩, tk3 68 rfl rfl, tk3 69 rfl rfl, tk1 2 rfl rfl, tk3 70 rfl rfl, by decide⟩
theorem v_Rdr_72 : CV "WardEngine$Reader" 72 "WardEngine$Reader" m_Rdr_readWord 0 := ⟨⟨rfl, by decide, by decide, by decide +kernel⟩, tk3 71 rfl rfl, tk3 73 rfl rfl, tb_sel 2 (by decide +kernel) rfl, tk1 2 rfl rfl, tk3 74 rfl rfl, by decide⟩
theorem s_Rdr_75 : CS "WardEngine$Reader" 75 m_Rdr_isDigit 1 := ⟨⟨by decide, by decide, by decide +kernel⟩, tk3 75 rfl rfl, tk3 76 rfl rfl, tk1 2 rfl rfl, tk3 77 rfl rfl, by decide⟩
theorem v_Rdr_78 : CV "WardEngine$Reader" 78 "WardEngine$Reader" m_Rdr_readNumber 0 := ⟨⟨rfl, by decide, by decide, by decide +kernel⟩, tk3 78 rfl rfl, tk3 80 rfl rfl, tb_sel 3 (by decide +kernel) rfl, tk1 2 rfl rfl, tk3 81 rfl rfl, by decide⟩
theorem v_Rdr_81 : CV "WardEngine$Reader" 81 "WardEngine$Reader" m_Rdr_readSign 1 := ⟨⟨rfl, by decide, by decide, by decide +kernel⟩, tk3 82 rfl rfl, tk3 84 rfl rfl, tb_sel 4 (by decide +kernel) rfl, tk1 2 rfl rfl, tk3 85 rfl rfl, by decide⟩
theorem s_Rdr_87 : CS "WardEngine$Reader" 87 m_Rdr_letterNumber 1 := ⟨⟨by decide, by decide, by decide +kernel⟩, tk1 100 rfl rfl, tk1 101 rfl rfl, tk1 2 rfl rfl, tk1 102 rfl rfl, by decide⟩
theorem v_Prd_22 : CV "WardEngine$PolicyReader" 22 "WardEngine$Policy" m_Pol_empty 0 := ⟨⟨rfl, by decide, by decide, by decide +kernel⟩, tk3 52 rfl rfl, tk3 53 rfl rfl, tk3 54 rfl rfl, tk1 8 rfl rfl, tk3 55 rfl rfl, by decide⟩
theorem v_Prd_29 : CV "WardEngine$PolicyReader" 29 "WardEngine$Reader" m_Rdr_startOver 0 := ⟨⟨rfl, by decide, by decide, by decide +kernel⟩, tk3 56 rfl rfl, tk3 57 rfl rfl, tk3 58 rfl rfl, tk1 2 rfl rfl, tk3 59 rfl rfl, by decide⟩
theorem v_Prd_37 : CV "WardEngine$PolicyReader" 37 "WardEngine$PolicyReader" m_Prd_readRule 0 := ⟨⟨rfl, by decide, by decide, by decide +kernel⟩, tk3 150 rfl rfl, tk3 152 rfl rfl, tb_sel 5 (by decide +kernel) rfl, tk1 7 rfl rfl, tk3 153 rfl rfl, by decide⟩
theorem v_Prd_44 : CV "WardEngine$PolicyReader" 44 "WardEngine$PolicyReader" m_Prd_readKinds 0 := ⟨⟨rfl, by decide, by decide, by decide +kernel⟩, tk3 154 rfl rfl, tk3 156 rfl rfl, tb_sel 6 (by decide +kernel) rfl, tk1 7 rfl rfl, tk3 157 rfl rfl, by decide⟩
theorem v_Prd_47 : CV "WardEngine$PolicyReader" 47 "WardEngine$Reader" m_Rdr_take 1 := ⟨⟨rfl, by decide, by decide, by decide +kernel⟩, tk3 159 rfl rfl, tk3 160 rfl rfl, tk3 161 rfl rfl, tk1 2 rfl rfl, tk3 162 rfl rfl, by decide⟩
theorem v_Prd_60 : CV "WardEngine$PolicyReader" 60 "WardEngine$PolicyReader" m_Prd_readStatement 0 := ⟨⟨rfl, by decide, by decide, by decide +kernel⟩, tk3 163 rfl rfl, tk3 165 rfl rfl, tb_sel 7 (by decide +kernel) rfl, tk1 7 rfl rfl, tk3 166 rfl rfl, by decide⟩
theorem v_Prd_63 : CV "WardEngine$PolicyReader" 63 "WardEngine$Policy" m_Pol_addRule 4 := ⟨⟨rfl, by decide, by decide, by decide +kernel⟩, tk3 208 rfl rfl, tk3 209 rfl rfl, tk3 210 rfl rfl, tk1 8 rfl rfl, tk3 211 rfl rfl, by decide⟩
theorem v_Prd_67 : CV "WardEngine$PolicyReader" 67 "WardEngine$Reader" m_Rdr_advance 0 := ⟨⟨rfl, by decide, by decide, by decide +kernel⟩, tk3 158 rfl rfl, tk3 147 rfl rfl, tk3 148 rfl rfl, tk1 2 rfl rfl, tk3 149 rfl rfl, by decide⟩
theorem v_Prd_70 : CV "WardEngine$PolicyReader" 70 "WardEngine$PolicyReader" m_Prd_readExpression 1 := ⟨⟨rfl, by decide, by decide, by decide +kernel⟩, tk3 167 rfl rfl, tk3 169 rfl rfl, tb_sel 8 (by decide +kernel) rfl, tk1 7 rfl rfl, tk3 170 rfl rfl, by decide⟩
theorem v_Prd_73 : CV "WardEngine$PolicyReader" 73 "WardEngine$Policy" m_Pol_append 2 := ⟨⟨rfl, by decide, by decide, by decide +kernel⟩, tk3 187 rfl rfl, tk3 188 rfl rfl, tk3 189 rfl rfl, tk1 8 rfl rfl, tk3 190 rfl rfl, by decide⟩
theorem v_Prd_77 : CV "WardEngine$PolicyReader" 77 "WardEngine$PolicyReader" m_Prd_readParts 1 := ⟨⟨rfl, by decide, by decide, by decide +kernel⟩, tk3 171 rfl rfl, tk3 173 rfl rfl, tb_sel 9 (by decide +kernel) rfl, tk1 7 rfl rfl, tk3 174 rfl rfl, by decide⟩
theorem v_Prd_80 : CV "WardEngine$PolicyReader" 80 "WardEngine$Policy" m_Pol_landHere 1 := ⟨⟨rfl, by decide, by decide, by decide +kernel⟩, tk3 204 rfl rfl, tk3 205 rfl rfl, tk3 206 rfl rfl, tk1 8 rfl rfl, tk3 207 rfl rfl, by decide⟩
theorem v_Prd_84 : CV "WardEngine$PolicyReader" 84 "WardEngine$PolicyReader" m_Prd_readSum 1 := ⟨⟨rfl, by decide, by decide, by decide +kernel⟩, tk3 175 rfl rfl, tk3 177 rfl rfl, tb_sel 10 (by decide +kernel) rfl, tk1 7 rfl rfl, tk3 178 rfl rfl, by decide⟩
theorem v_Prd_87 : CV "WardEngine$PolicyReader" 87 "WardEngine$PolicyReader" m_Prd_readTerm 1 := ⟨⟨rfl, by decide, by decide, by decide +kernel⟩, tk3 179 rfl rfl, tk3 181 rfl rfl, tb_sel 11 (by decide +kernel) rfl, tk1 7 rfl rfl, tk3 182 rfl rfl, by decide⟩
theorem s_Prd_90 : CS "WardEngine$PolicyReader" 90 m_Prd_isSumSign 1 := ⟨⟨by decide, by decide, by decide +kernel⟩, tk3 201 rfl rfl, tk3 202 rfl rfl, tk1 7 rfl rfl, tk3 203 rfl rfl, by decide⟩
theorem v_Prd_93 : CV "WardEngine$PolicyReader" 93 "WardEngine$PolicyReader" m_Prd_readTurned 2 := ⟨⟨rfl, by decide, by decide, by decide +kernel⟩, tk3 183 rfl rfl, tk3 185 rfl rfl, tb_sel 12 (by decide +kernel) rfl, tk1 7 rfl rfl, tk3 186 rfl rfl, by decide⟩
theorem v_Prd_97 : CV "WardEngine$PolicyReader" 97 "WardEngine$PolicyReader" m_Prd_readBracket 2 := ⟨⟨rfl, by decide, by decide, by decide +kernel⟩, tk3 191 rfl rfl, tk3 193 rfl rfl, tb_sel 13 (by decide +kernel) rfl, tk1 7 rfl rfl, tk3 194 rfl rfl, by decide⟩
theorem v_Prd_101 : CV "WardEngine$PolicyReader" 101 "WardEngine$PolicyReader" m_Prd_readCall 2 := ⟨⟨rfl, by decide, by decide, by decide +kernel⟩, tk3 195 rfl rfl, tk3 197 rfl rfl, tb_sel 14 (by decide +kernel) rfl, tk1 7 rfl rfl, tk3 198 rfl rfl, by decide⟩
theorem v_Pol_40 : CV "WardEngine$Policy" 40 "WardEngine$Policy" m_Pol_hasRule 1 := ⟨⟨rfl, by decide, by decide, by decide +kernel⟩, tk6 163 rfl rfl, tk6 135 rfl rfl, tk6 136 rfl rfl, tk1 8 rfl rfl, tk6 137 rfl rfl, by decide⟩
theorem v_Img_22 : CV "WardEngine$ImageReader" 22 "WardEngine$Machine" m_Mch_restart 1 := ⟨⟨rfl, by decide, by decide, by decide +kernel⟩, tk3 232 rfl rfl, tk3 233 rfl rfl, tk3 234 rfl rfl, tk1 11 rfl rfl, tk3 235 rfl rfl, by decide⟩
theorem v_Img_33 : CV "WardEngine$ImageReader" 33 "WardEngine$Reader" m_Rdr_startOver 0 := ⟨⟨rfl, by decide, by decide, by decide +kernel⟩, tk3 237 rfl rfl, tk3 57 rfl rfl, tk3 58 rfl rfl, tk1 2 rfl rfl, tk3 59 rfl rfl, by decide⟩
theorem v_Img_41 : CV "WardEngine$ImageReader" 41 "WardEngine$ImageReader" m_Img_readClear 0 := ⟨⟨rfl, by decide, by decide, by decide +kernel⟩, tk3 238 rfl rfl, tk4 0 rfl rfl, tb_sel 15 (by decide +kernel) rfl, tk1 10 rfl rfl, tk4 1 rfl rfl, by decide⟩
theorem v_Img_45 : CV "WardEngine$ImageReader" 45 "WardEngine$ImageReader" m_Img_readLine 0 := ⟨⟨rfl, by decide, by decide, by decide +kernel⟩, tk4 14 rfl rfl, tk4 16 rfl rfl, tb_sel 18 (by decide +kernel) rfl, tk1 10 rfl rfl, tk4 17 rfl rfl, by decide⟩
theorem v_Img_48 : CV "WardEngine$ImageReader" 48 "WardEngine$Reader" m_Rdr_take 1 := ⟨⟨rfl, by decide, by decide, by decide +kernel⟩, tk4 13 rfl rfl, tk3 160 rfl rfl, tk3 161 rfl rfl, tk1 2 rfl rfl, tk3 162 rfl rfl, by decide⟩
theorem v_Img_55 : CV "WardEngine$ImageReader" 55 "WardEngine$Reader" m_Rdr_advance 0 := ⟨⟨rfl, by decide, by decide, by decide +kernel⟩, tk4 2 rfl rfl, tk3 147 rfl rfl, tk3 148 rfl rfl, tk1 2 rfl rfl, tk3 149 rfl rfl, by decide⟩
theorem v_Img_58 : CV "WardEngine$ImageReader" 58 "WardEngine$ImageReader" m_Img_readAny 0 := ⟨⟨rfl, by decide, by decide, by decide +kernel⟩, tk4 3 rfl rfl, tk4 5 rfl rfl, tb_sel 16 (by decide +kernel) rfl, tk1 10 rfl rfl, tk4 6 rfl rfl, by decide⟩
theorem v_Img_67 : CV "WardEngine$ImageReader" 67 "WardEngine$ImageReader" m_Img_readInstruction 1 := ⟨⟨rfl, by decide, by decide, by decide +kernel⟩, tk4 18 rfl rfl, tk4 20 rfl rfl, tb_sel 19 (by decide +kernel) rfl, tk1 10 rfl rfl, tk4 21 rfl rfl, by decide⟩
theorem v_Img_70 : CV "WardEngine$ImageReader" 70 "WardEngine$ImageReader" m_Img_readAt 0 := ⟨⟨rfl, by decide, by decide, by decide +kernel⟩, tk4 36 rfl rfl, tk4 38 rfl rfl, tb_sel 21 (by decide +kernel) rfl, tk1 10 rfl rfl, tk4 39 rfl rfl, by decide⟩
theorem v_Img_73 : CV "WardEngine$ImageReader" 73 "WardEngine$ImageReader" m_Img_readWordLine 0 := ⟨⟨rfl, by decide, by decide, by decide +kernel⟩, tk4 40 rfl rfl, tk4 42 rfl rfl, tb_sel 22 (by decide +kernel) rfl, tk1 10 rfl rfl, tk4 43 rfl rfl, by decide⟩
theorem v_Img_76 : CV "WardEngine$ImageReader" 76 "WardEngine$ImageReader" m_Img_readRegister 0 := ⟨⟨rfl, by decide, by decide, by decide +kernel⟩, tk4 56 rfl rfl, tk4 58 rfl rfl, tb_sel 24 (by decide +kernel) rfl, tk1 10 rfl rfl, tk4 59 rfl rfl, by decide⟩
theorem v_Img_79 : CV "WardEngine$ImageReader" 79 "WardEngine$ImageReader" m_Img_readInput 0 := ⟨⟨rfl, by decide, by decide, by decide +kernel⟩, tk4 64 rfl rfl, tk4 66 rfl rfl, tb_sel 25 (by decide +kernel) rfl, tk1 10 rfl rfl, tk4 67 rfl rfl, by decide⟩
theorem v_Img_82 : CV "WardEngine$ImageReader" 82 "WardEngine$ImageReader" m_Img_readNumber 2 := ⟨⟨rfl, by decide, by decide, by decide +kernel⟩, tk4 9 rfl rfl, tk4 11 rfl rfl, tb_sel 17 (by decide +kernel) rfl, tk1 10 rfl rfl, tk4 12 rfl rfl, by decide⟩
theorem s_Img_86 : CS "WardEngine$ImageReader" 86 m_Img_fieldBit 1 := ⟨⟨by decide, by decide, by decide +kernel⟩, tk4 22 rfl rfl, tk4 23 rfl rfl, tk1 10 rfl rfl, tk4 24 rfl rfl, by decide⟩
theorem v_Img_90 : CV "WardEngine$ImageReader" 90 "WardEngine$ImageReader" m_Img_readFieldNumber 1 := ⟨⟨rfl, by decide, by decide, by decide +kernel⟩, tk4 25 rfl rfl, tk4 27 rfl rfl, tb_sel 20 (by decide +kernel) rfl, tk1 10 rfl rfl, tk4 28 rfl rfl, by decide⟩
theorem s_Img_93 : CS "WardEngine$ImageReader" 93 m_Img_fieldShift 1 := ⟨⟨by decide, by decide, by decide +kernel⟩, tk4 29 rfl rfl, tk4 30 rfl rfl, tk1 10 rfl rfl, tk4 31 rfl rfl, by decide⟩
theorem v_Img_96 : CV "WardEngine$ImageReader" 96 "WardEngine$Machine" m_Mch_setCode 3 := ⟨⟨rfl, by decide, by decide, by decide +kernel⟩, tk4 32 rfl rfl, tk4 33 rfl rfl, tk4 34 rfl rfl, tk1 11 rfl rfl, tk4 35 rfl rfl, by decide⟩
theorem v_Img_102 : CV "WardEngine$ImageReader" 102 "WardEngine$ImageReader" m_Img_readOptional 1 := ⟨⟨rfl, by decide, by decide, by decide +kernel⟩, tk4 44 rfl rfl, tk4 46 rfl rfl, tb_sel 23 (by decide +kernel) rfl, tk1 10 rfl rfl, tk4 47 rfl rfl, by decide⟩
theorem v_Img_105 : CV "WardEngine$ImageReader" 105 "WardEngine$Machine" m_Mch_setWord 4 := ⟨⟨rfl, by decide, by decide, by decide +kernel⟩, tk4 48 rfl rfl, tk4 49 rfl rfl, tk4 50 rfl rfl, tk1 11 rfl rfl, tk4 51 rfl rfl, by decide⟩
theorem v_Img_109 : CV "WardEngine$ImageReader" 109 "WardEngine$Machine" m_Mch_setRegister 3 := ⟨⟨rfl, by decide, by decide, by decide +kernel⟩, tk4 60 rfl rfl, tk4 61 rfl rfl, tk4 62 rfl rfl, tk1 11 rfl rfl, tk4 63 rfl rfl, by decide⟩
theorem v_Img_116 : CV "WardEngine$ImageReader" 116 "WardEngine$Machine" m_Mch_addInput 2 := ⟨⟨rfl, by decide, by decide, by decide +kernel⟩, tk4 68 rfl rfl, tk4 69 rfl rfl, tk4 70 rfl rfl, tk1 11 rfl rfl, tk4 71 rfl rfl, by decide⟩
theorem v_Mch_82 : CV "WardEngine$Machine" 82 "WardEngine$Ring" m_Rng_empty 0 := ⟨⟨rfl, by decide, by decide, by decide +kernel⟩, tk3 220 rfl rfl, tk3 221 rfl rfl, tk3 222 rfl rfl, tk1 12 rfl rfl, tk3 223 rfl rfl, by decide⟩
theorem v_Mch_89 : CV "WardEngine$Machine" 89 "WardEngine$Ring" m_Rng_become 1 := ⟨⟨rfl, by decide, by decide, by decide +kernel⟩, tk4 109 rfl rfl, tk4 110 rfl rfl, tk4 111 rfl rfl, tk1 12 rfl rfl, tk4 112 rfl rfl, by decide⟩
theorem v_Mch_93 : CV "WardEngine$Machine" 93 "WardEngine$Machine" m_Mch_hasWord 1 := ⟨⟨rfl, by decide, by decide, by decide +kernel⟩, tk4 52 rfl rfl, tk4 53 rfl rfl, tk4 54 rfl rfl, tk1 11 rfl rfl, tk4 55 rfl rfl, by decide⟩
theorem v_Mch_109 : CV "WardEngine$Machine" 109 "WardEngine$Machine" m_Mch_setWord 4 := ⟨⟨rfl, by decide, by decide, by decide +kernel⟩, tk7 29 rfl rfl, tk4 49 rfl rfl, tk4 50 rfl rfl, tk1 11 rfl rfl, tk4 51 rfl rfl, by decide⟩
theorem s_Mch_114 : CS "WardEngine$Machine" 114 m_Mch_unlikePlace 3 := ⟨⟨by decide, by decide, by decide +kernel⟩, tk7 184 rfl rfl, tk7 185 rfl rfl, tk1 11 rfl rfl, tk7 186 rfl rfl, by decide⟩
theorem s_Mch_118 : CS "WardEngine$Machine" 118 m_Mch_earlier 2 := ⟨⟨by decide, by decide, by decide +kernel⟩, tk7 187 rfl rfl, tk7 188 rfl rfl, tk1 11 rfl rfl, tk7 189 rfl rfl, by decide⟩
theorem v_Mch_121 : CV "WardEngine$Machine" 121 "WardEngine$Machine" m_Mch_keptOutputs 0 := ⟨⟨rfl, by decide, by decide, by decide +kernel⟩, tk7 203 rfl rfl, tk7 73 rfl rfl, tk7 74 rfl rfl, tk1 11 rfl rfl, tk7 75 rfl rfl, by decide⟩
theorem v_Rng_28 : CV "WardEngine$Ring" 28 "WardEngine$Ring" m_Rng_startOf 1 := ⟨⟨rfl, by decide, by decide, by decide +kernel⟩, tk6 220 rfl rfl, tk6 222 rfl rfl, tb_sel 44 (by decide +kernel) rfl, tk1 12 rfl rfl, tk6 223 rfl rfl, by decide⟩
theorem v_Rng_38 : CV "WardEngine$Ring" 38 "WardEngine$Ring" m_Rng_isLike 3 := ⟨⟨rfl, by decide, by decide, by decide +kernel⟩, tk6 224 rfl rfl, tk6 226 rfl rfl, tb_sel 45 (by decide +kernel) rfl, tk1 12 rfl rfl, tk6 227 rfl rfl, by decide⟩
theorem v_Stp_32 : CV "WardEngine$Stepper" 32 "WardEngine$Stepper" m_Stp_tryOut 2 := ⟨⟨rfl, by decide, by decide, by decide +kernel⟩, tk6 126 rfl rfl, tk6 128 rfl rfl, tb_sel 30 (by decide +kernel) rfl, tk1 13 rfl rfl, tk6 129 rfl rfl, by decide⟩
theorem v_Stp_47 : CV "WardEngine$Stepper" 47 "WardEngine$Stepper" m_Stp_addCount 2 := ⟨⟨rfl, by decide, by decide, by decide +kernel⟩, tk6 212 rfl rfl, tk6 214 rfl rfl, tb_sel 43 (by decide +kernel) rfl, tk1 13 rfl rfl, tk6 215 rfl rfl, by decide⟩
theorem v_Stp_51 : CV "WardEngine$Stepper" 51 "WardEngine$Stepper" m_Stp_noteEntry 2 := ⟨⟨rfl, by decide, by decide, by decide +kernel⟩, tk7 38 rfl rfl, tk7 40 rfl rfl, tb_sel 50 (by decide +kernel) rfl, tk1 13 rfl rfl, tk7 41 rfl rfl, by decide⟩
theorem v_Stp_64 : CV "WardEngine$Stepper" 64 "WardEngine$Ring" m_Rng_add 1 := ⟨⟨rfl, by decide, by decide, by decide +kernel⟩, tk6 229 rfl rfl, tk6 230 rfl rfl, tk6 231 rfl rfl, tk1 12 rfl rfl, tk6 232 rfl rfl, by decide⟩
theorem v_Stp_79 : CV "WardEngine$Stepper" 79 "WardEngine$Stepper" m_Stp_decode 2 := ⟨⟨rfl, by decide, by decide, by decide +kernel⟩, tk6 130 rfl rfl, tk6 132 rfl rfl, tb_sel 31 (by decide +kernel) rfl, tk1 13 rfl rfl, tk6 133 rfl rfl, by decide⟩
theorem v_Stp_86 : CV "WardEngine$Stepper" 86 "WardEngine$Policy" m_Pol_hasRule 1 := ⟨⟨rfl, by decide, by decide, by decide +kernel⟩, tk6 134 rfl rfl, tk6 135 rfl rfl, tk6 136 rfl rfl, tk1 8 rfl rfl, tk6 137 rfl rfl, by decide⟩
theorem v_Stp_95 : CV "WardEngine$Stepper" 95 "WardEngine$Stepper" m_Stp_fillQuestion 2 := ⟨⟨rfl, by decide, by decide, by decide +kernel⟩, tk6 138 rfl rfl, tk6 140 rfl rfl, tb_sel 32 (by decide +kernel) rfl, tk1 13 rfl rfl, tk6 141 rfl rfl, by decide⟩
theorem v_Stp_98 : CV "WardEngine$Stepper" 98 "WardEngine$Stepper" m_Stp_ask 2 := ⟨⟨rfl, by decide, by decide, by decide +kernel⟩, tk6 155 rfl rfl, tk6 157 rfl rfl, tb_sel 36 (by decide +kernel) rfl, tk1 13 rfl rfl, tk6 158 rfl rfl, by decide⟩
theorem v_Stp_108 : CV "WardEngine$Stepper" 108 "WardEngine$Stepper" m_Stp_hindrance 1 := ⟨⟨rfl, by decide, by decide, by decide +kernel⟩, tk6 238 rfl rfl, tk7 0 rfl rfl, tb_sel 46 (by decide +kernel) rfl, tk1 13 rfl rfl, tk7 1 rfl rfl, by decide⟩
theorem v_Stp_115 : CV "WardEngine$Stepper" 115 "WardEngine$Stepper" m_Stp_settle 2 := ⟨⟨rfl, by decide, by decide, by decide +kernel⟩, tk7 6 rfl rfl, tk7 8 rfl rfl, tb_sel 47 (by decide +kernel) rfl, tk1 13 rfl rfl, tk7 9 rfl rfl, by decide⟩
theorem v_Stp_118 : CV "WardEngine$Stepper" 118 "WardEngine$Stepper" m_Stp_perform 1 := ⟨⟨rfl, by decide, by decide, by decide +kernel⟩, tk7 10 rfl rfl, tk7 12 rfl rfl, tb_sel 48 (by decide +kernel) rfl, tk1 13 rfl rfl, tk7 13 rfl rfl, by decide⟩
theorem v_Stp_137 : CV "WardEngine$Stepper" 137 "WardEngine$Policy" m_Pol_mayBeCompared 1 := ⟨⟨rfl, by decide, by decide, by decide +kernel⟩, tk6 159 rfl rfl, tk6 160 rfl rfl, tk6 161 rfl rfl, tk1 8 rfl rfl, tk6 162 rfl rfl, by decide⟩
theorem v_Stp_140 : CV "WardEngine$Stepper" 140 "WardEngine$Worker" m_Wrk_workOut 3 := ⟨⟨rfl, by decide, by decide, by decide +kernel⟩, tk6 165 rfl rfl, tk6 166 rfl rfl, tk6 167 rfl rfl, tk1 14 rfl rfl, tk6 168 rfl rfl, by decide⟩
theorem v_Stp_147 : CV "WardEngine$Stepper" 147 "WardEngine$Ring" m_Rng_rowLike 2 := ⟨⟨rfl, by decide, by decide, by decide +kernel⟩, tk6 216 rfl rfl, tk6 217 rfl rfl, tk6 218 rfl rfl, tk1 12 rfl rfl, tk6 219 rfl rfl, by decide⟩
theorem v_Stp_151 : CV "WardEngine$Stepper" 151 "WardEngine$Ring" m_Rng_fetch 2 := ⟨⟨rfl, by decide, by decide, by decide +kernel⟩, tk6 234 rfl rfl, tk6 235 rfl rfl, tk6 236 rfl rfl, tk1 12 rfl rfl, tk6 237 rfl rfl, by decide⟩
theorem v_Stp_155 : CV "WardEngine$Stepper" 155 "WardEngine$Stepper" m_Stp_nameValue 2 := ⟨⟨rfl, by decide, by decide, by decide +kernel⟩, tk6 142 rfl rfl, tk6 144 rfl rfl, tb_sel 33 (by decide +kernel) rfl, tk1 13 rfl rfl, tk6 145 rfl rfl, by decide⟩
theorem v_Stp_165 : CV "WardEngine$Stepper" 165 "WardEngine$Stepper" m_Stp_ofWord 2 := ⟨⟨rfl, by decide, by decide, by decide +kernel⟩, tk6 146 rfl rfl, tk6 148 rfl rfl, tb_sel 34 (by decide +kernel) rfl, tk1 13 rfl rfl, tk6 149 rfl rfl, by decide⟩
theorem v_Stp_178 : CV "WardEngine$Stepper" 178 "WardEngine$Stepper" m_Stp_reachesWord 0 := ⟨⟨rfl, by decide, by decide, by decide +kernel⟩, tk6 150 rfl rfl, tk6 152 rfl rfl, tb_sel 35 (by decide +kernel) rfl, tk1 13 rfl rfl, tk6 153 rfl rfl, by decide⟩
theorem v_Stp_182 : CV "WardEngine$Stepper" 182 "WardEngine$Machine" m_Mch_hasWord 1 := ⟨⟨rfl, by decide, by decide, by decide +kernel⟩, tk6 154 rfl rfl, tk4 53 rfl rfl, tk4 54 rfl rfl, tk1 11 rfl rfl, tk4 55 rfl rfl, by decide⟩
theorem v_Stp_185 : CV "WardEngine$Stepper" 185 "WardEngine$Machine" m_Mch_freePlace 1 := ⟨⟨rfl, by decide, by decide, by decide +kernel⟩, tk7 2 rfl rfl, tk7 3 rfl rfl, tk7 4 rfl rfl, tk1 11 rfl rfl, tk7 5 rfl rfl, by decide⟩
theorem v_Stp_195 : CV "WardEngine$Stepper" 195 "WardEngine$Machine" m_Mch_setWord 4 := ⟨⟨rfl, by decide, by decide, by decide +kernel⟩, tk7 14 rfl rfl, tk4 49 rfl rfl, tk4 50 rfl rfl, tk1 11 rfl rfl, tk4 51 rfl rfl, by decide⟩
theorem v_Stp_199 : CV "WardEngine$Stepper" 199 "WardEngine$Machine" m_Mch_setRegister 3 := ⟨⟨rfl, by decide, by decide, by decide +kernel⟩, tk7 15 rfl rfl, tk4 61 rfl rfl, tk4 62 rfl rfl, tk1 11 rfl rfl, tk4 63 rfl rfl, by decide⟩
theorem v_Stp_203 : CV "WardEngine$Stepper" 203 "WardEngine$Machine" m_Mch_putOut 1 := ⟨⟨rfl, by decide, by decide, by decide +kernel⟩, tk7 16 rfl rfl, tk7 17 rfl rfl, tk7 18 rfl rfl, tk1 11 rfl rfl, tk7 19 rfl rfl, by decide⟩
theorem v_Stp_207 : CV "WardEngine$Stepper" 207 "WardEngine$Machine" m_Mch_takeInput 0 := ⟨⟨rfl, by decide, by decide, by decide +kernel⟩, tk7 20 rfl rfl, tk7 21 rfl rfl, tk7 22 rfl rfl, tk1 11 rfl rfl, tk7 23 rfl rfl, by decide⟩
theorem v_Stp_211 : CV "WardEngine$Stepper" 211 "WardEngine$Machine" m_Mch_handOut 3 := ⟨⟨rfl, by decide, by decide, by decide +kernel⟩, tk7 25 rfl rfl, tk7 26 rfl rfl, tk7 27 rfl rfl, tk1 11 rfl rfl, tk7 28 rfl rfl, by decide⟩
theorem v_Stp_214 : CV "WardEngine$Stepper" 214 "WardEngine$Machine" m_Mch_free 1 := ⟨⟨rfl, by decide, by decide, by decide +kernel⟩, tk7 30 rfl rfl, tk7 31 rfl rfl, tk7 32 rfl rfl, tk1 11 rfl rfl, tk7 33 rfl rfl, by decide⟩
theorem v_Stp_217 : CV "WardEngine$Stepper" 217 "WardEngine$Stepper" m_Stp_result 1 := ⟨⟨rfl, by decide, by decide, by decide +kernel⟩, tk7 34 rfl rfl, tk7 36 rfl rfl, tb_sel 49 (by decide +kernel) rfl, tk1 13 rfl rfl, tk7 37 rfl rfl, by decide⟩
theorem v_Wrk_18 : CV "WardEngine$Worker" 18 "WardEngine$Worker" m_Wrk_forgetAnswer 0 := ⟨⟨rfl, by decide, by decide, by decide +kernel⟩, tk6 169 rfl rfl, tk6 171 rfl rfl, tb_sel 37 (by decide +kernel) rfl, tk1 14 rfl rfl, tk6 172 rfl rfl, by decide⟩
theorem v_Wrk_21 : CV "WardEngine$Worker" 21 "WardEngine$Policy" m_Pol_hasRule 1 := ⟨⟨rfl, by decide, by decide, by decide +kernel⟩, tk6 173 rfl rfl, tk6 135 rfl rfl, tk6 136 rfl rfl, tk1 8 rfl rfl, tk6 137 rfl rfl, by decide⟩
theorem v_Wrk_52 : CV "WardEngine$Worker" 52 "WardEngine$Worker" m_Wrk_pop 0 := ⟨⟨rfl, by decide, by decide, by decide +kernel⟩, tk6 176 rfl rfl, tk6 178 rfl rfl, tb_sel 38 (by decide +kernel) rfl, tk1 14 rfl rfl, tk6 179 rfl rfl, by decide⟩
theorem v_Wrk_56 : CV "WardEngine$Worker" 56 "WardEngine$Worker" m_Wrk_conclude 2 := ⟨⟨rfl, by decide, by decide, by decide +kernel⟩, tk6 180 rfl rfl, tk6 182 rfl rfl, tb_sel 39 (by decide +kernel) rfl, tk1 14 rfl rfl, tk6 183 rfl rfl, by decide⟩
theorem v_Wrk_60 : CV "WardEngine$Worker" 60 "WardEngine$Worker" m_Wrk_valueOf 3 := ⟨⟨rfl, by decide, by decide, by decide +kernel⟩, tk6 188 rfl rfl, tk6 190 rfl rfl, tb_sel 41 (by decide +kernel) rfl, tk1 14 rfl rfl, tk6 191 rfl rfl, by decide⟩
theorem v_Wrk_64 : CV "WardEngine$Worker" 64 "WardEngine$Worker" m_Wrk_push 1 := ⟨⟨rfl, by decide, by decide, by decide +kernel⟩, tk6 208 rfl rfl, tk6 210 rfl rfl, tb_sel 42 (by decide +kernel) rfl, tk1 14 rfl rfl, tk6 211 rfl rfl, by decide⟩
theorem v_Wrk_68 : CV "WardEngine$Worker" 68 "WardEngine$Worker" m_Wrk_endWith 1 := ⟨⟨rfl, by decide, by decide, by decide +kernel⟩, tk6 184 rfl rfl, tk6 186 rfl rfl, tb_sel 40 (by decide +kernel) rfl, tk1 14 rfl rfl, tk6 187 rfl rfl, by decide⟩
theorem v_Wrk_76 : CV "WardEngine$Worker" 76 "WardEngine$Machine" m_Mch_partOf 3 := ⟨⟨rfl, by decide, by decide, by decide +kernel⟩, tk6 192 rfl rfl, tk6 193 rfl rfl, tk6 194 rfl rfl, tk1 11 rfl rfl, tk6 195 rfl rfl, by decide⟩
theorem v_Wrk_83 : CV "WardEngine$Worker" 83 "WardEngine$Machine" m_Mch_baseOf 1 := ⟨⟨rfl, by decide, by decide, by decide +kernel⟩, tk6 197 rfl rfl, tk6 198 rfl rfl, tk6 199 rfl rfl, tk1 11 rfl rfl, tk6 200 rfl rfl, by decide⟩
theorem v_Wrk_87 : CV "WardEngine$Worker" 87 "WardEngine$Machine" m_Mch_pairWith 2 := ⟨⟨rfl, by decide, by decide, by decide +kernel⟩, tk6 201 rfl rfl, tk6 202 rfl rfl, tk6 203 rfl rfl, tk1 11 rfl rfl, tk6 204 rfl rfl, by decide⟩
theorem s_Wrk_90 : CS "WardEngine$Worker" 90 m_Wrk_combine 3 := ⟨⟨by decide, by decide, by decide +kernel⟩, tk6 205 rfl rfl, tk6 206 rfl rfl, tk1 14 rfl rfl, tk6 207 rfl rfl, by decide⟩
theorem v_Cmp_25 : CV "WardEngine$Comparer" 25 "WardEngine$Policy" m_Pol_hasRule 1 := ⟨⟨rfl, by decide, by decide, by decide +kernel⟩, tk7 137 rfl rfl, tk6 135 rfl rfl, tk6 136 rfl rfl, tk1 8 rfl rfl, tk6 137 rfl rfl, by decide⟩
theorem v_Cmp_66 : CV "WardEngine$Comparer" 66 "WardEngine$Worker" m_Wrk_workOut 3 := ⟨⟨rfl, by decide, by decide, by decide +kernel⟩, tk7 152 rfl rfl, tk6 166 rfl rfl, tk6 167 rfl rfl, tk1 14 rfl rfl, tk6 168 rfl rfl, by decide⟩
theorem v_Cmp_70 : CV "WardEngine$Comparer" 70 "WardEngine$Comparer" m_Cmp_answerUnlike 2 := ⟨⟨rfl, by decide, by decide, by decide +kernel⟩, tk7 153 rfl rfl, tk7 155 rfl rfl, tb_sel 51 (by decide +kernel) rfl, tk1 15 rfl rfl, tk7 156 rfl rfl, by decide⟩
theorem v_Cmp_74 : CV "WardEngine$Comparer" 74 "WardEngine$Comparer" m_Cmp_goToNextCase 0 := ⟨⟨rfl, by decide, by decide, by decide +kernel⟩, tk7 160 rfl rfl, tk7 162 rfl rfl, tb_sel 52 (by decide +kernel) rfl, tk1 15 rfl rfl, tk7 163 rfl rfl, by decide⟩
theorem s_Cmp_77 : CS "WardEngine$Comparer" 77 m_Cmp_fillUntold 2 := ⟨⟨by decide, by decide, by decide +kernel⟩, tk7 157 rfl rfl, tk7 158 rfl rfl, tk1 15 rfl rfl, tk7 159 rfl rfl, by decide⟩
theorem v_Mod_232 : CV "WardEngineModel" 232 "WardEngineModel" m_Mod_setUp 1 := ⟨⟨rfl, by decide, by decide, by decide +kernel⟩, tk8 21 rfl rfl, tk8 23 rfl rfl, tb_sel 53 (by decide +kernel) rfl, tk1 18 rfl rfl, tk8 24 rfl rfl, by decide⟩
theorem v_Mod_236 : CV "WardEngineModel" 236 "WardEngineModel" m_Mod_moveAll 1 := ⟨⟨rfl, by decide, by decide, by decide +kernel⟩, tk8 25 rfl rfl, tk8 27 rfl rfl, tb_sel 54 (by decide +kernel) rfl, tk1 18 rfl rfl, tk8 28 rfl rfl, by decide⟩
theorem s_Mod_243 : CS "WardEngineModel" 243 m_Mod_in 3 := ⟨⟨by decide, by decide, by decide +kernel⟩, tk9 66 rfl rfl, tk9 67 rfl rfl, tk1 18 rfl rfl, tk9 68 rfl rfl, by decide⟩
theorem v_Mod_250 : CV "WardEngineModel" 250 "WardEngineModel" m_Mod_refuse 2 := ⟨⟨rfl, by decide, by decide, by decide +kernel⟩, tk9 69 rfl rfl, tk9 71 rfl rfl, tb_sel 56 (by decide +kernel) rfl, tk1 18 rfl rfl, tk9 72 rfl rfl, by decide⟩
theorem v_Mod_254 : CV "WardEngineModel" 254 "WardEngineModel" m_Mod_sign 1 := ⟨⟨rfl, by decide, by decide, by decide +kernel⟩, tk9 89 rfl rfl, tk9 91 rfl rfl, tb_sel 59 (by decide +kernel) rfl, tk1 18 rfl rfl, tk9 92 rfl rfl, by decide⟩
theorem v_Mod_266 : CV "WardEngineModel" 266 "WardEngineModel" m_Mod_wordAt 2 := ⟨⟨rfl, by decide, by decide, by decide +kernel⟩, tk9 93 rfl rfl, tk9 95 rfl rfl, tb_sel 60 (by decide +kernel) rfl, tk1 18 rfl rfl, tk9 96 rfl rfl, by decide⟩
theorem s_Mod_276 : CS "WardEngineModel" 276 m_Mod_isSign 1 := ⟨⟨by decide, by decide, by decide +kernel⟩, tk9 98 rfl rfl, tk9 99 rfl rfl, tk1 18 rfl rfl, tk9 100 rfl rfl, by decide⟩
theorem v_Mod_283 : CV "WardEngineModel" 283 "WardEngineModel" m_Mod_is 1 := ⟨⟨rfl, by decide, by decide, by decide +kernel⟩, tk9 113 rfl rfl, tk9 115 rfl rfl, tb_sel 64 (by decide +kernel) rfl, tk1 18 rfl rfl, tk9 116 rfl rfl, by decide⟩
theorem v_Mod_286 : CV "WardEngineModel" 286 "WardEngineModel" m_Mod_fail 0 := ⟨⟨rfl, by decide, by decide, by decide +kernel⟩, tk9 109 rfl rfl, tk9 111 rfl rfl, tb_sel 63 (by decide +kernel) rfl, tk1 18 rfl rfl, tk9 112 rfl rfl, by decide⟩
theorem v_Mod_289 : CV "WardEngineModel" 289 "WardEngineModel" m_Mod_advance 0 := ⟨⟨rfl, by decide, by decide, by decide +kernel⟩, tk9 85 rfl rfl, tk9 87 rfl rfl, tb_sel 58 (by decide +kernel) rfl, tk1 18 rfl rfl, tk9 88 rfl rfl, by decide⟩
theorem v_Mod_301 : CV "WardEngineModel" 301 "WardEngineModel" m_Mod_topOf 0 := ⟨⟨rfl, by decide, by decide, by decide +kernel⟩, tk9 149 rfl rfl, tk9 151 rfl rfl, tb_sel 73 (by decide +kernel) rfl, tk1 18 rfl rfl, tk9 152 rfl rfl, by decide⟩
theorem v_Mod_305 : CV "WardEngineModel" 305 "WardEngineModel" m_Mod_isUnary 1 := ⟨⟨rfl, by decide, by decide, by decide +kernel⟩, tk9 153 rfl rfl, tk9 155 rfl rfl, tb_sel 74 (by decide +kernel) rfl, tk1 18 rfl rfl, tk9 156 rfl rfl, by decide⟩
theorem v_Mod_308 : CV "WardEngineModel" 308 "WardEngineModel" m_Mod_emit 2 := ⟨⟨rfl, by decide, by decide, by decide +kernel⟩, tk9 141 rfl rfl, tk9 143 rfl rfl, tb_sel 71 (by decide +kernel) rfl, tk1 18 rfl rfl, tk9 144 rfl rfl, by decide⟩
theorem v_Mod_312 : CV "WardEngineModel" 312 "WardEngineModel" m_Mod_isSum 1 := ⟨⟨rfl, by decide, by decide, by decide +kernel⟩, tk9 161 rfl rfl, tk9 163 rfl rfl, tb_sel 76 (by decide +kernel) rfl, tk1 18 rfl rfl, tk9 164 rfl rfl, by decide⟩
theorem v_Mod_315 : CV "WardEngineModel" 315 "WardEngineModel" m_Mod_endSum 0 := ⟨⟨rfl, by decide, by decide, by decide +kernel⟩, tk9 165 rfl rfl, tk9 167 rfl rfl, tb_sel 77 (by decide +kernel) rfl, tk1 18 rfl rfl, tk9 168 rfl rfl, by decide⟩
theorem v_Mod_318 : CV "WardEngineModel" 318 "WardEngineModel" m_Mod_isCompared 1 := ⟨⟨rfl, by decide, by decide, by decide +kernel⟩, tk9 169 rfl rfl, tk9 171 rfl rfl, tb_sel 78 (by decide +kernel) rfl, tk1 18 rfl rfl, tk9 172 rfl rfl, by decide⟩
theorem v_Mod_321 : CV "WardEngineModel" 321 "WardEngineModel" m_Mod_endParts 0 := ⟨⟨rfl, by decide, by decide, by decide +kernel⟩, tk9 173 rfl rfl, tk9 175 rfl rfl, tb_sel 79 (by decide +kernel) rfl, tk1 18 rfl rfl, tk9 176 rfl rfl, by decide⟩
theorem v_Mod_324 : CV "WardEngineModel" 324 "WardEngineModel" m_Mod_push 3 := ⟨⟨rfl, by decide, by decide, by decide +kernel⟩, tk9 133 rfl rfl, tk9 135 rfl rfl, tb_sel 69 (by decide +kernel) rfl, tk1 18 rfl rfl, tk9 136 rfl rfl, by decide⟩
theorem v_Mod_328 : CV "WardEngineModel" 328 "WardEngineModel" m_Mod_step 0 := ⟨⟨rfl, by decide, by decide, by decide +kernel⟩, tk9 137 rfl rfl, tk9 139 rfl rfl, tb_sel 70 (by decide +kernel) rfl, tk1 18 rfl rfl, tk9 140 rfl rfl, by decide⟩
theorem v_Mod_334 : CV "WardEngineModel" 334 "WardEngineModel" m_Mod_whole 0 := ⟨⟨rfl, by decide, by decide, by decide +kernel⟩, tk9 145 rfl rfl, tk9 147 rfl rfl, tb_sel 72 (by decide +kernel) rfl, tk1 18 rfl rfl, tk9 148 rfl rfl, by decide⟩
theorem v_Mod_337 : CV "WardEngineModel" 337 "WardEngineModel" m_Mod_endExpression 0 := ⟨⟨rfl, by decide, by decide, by decide +kernel⟩, tk9 177 rfl rfl, tk9 179 rfl rfl, tb_sel 80 (by decide +kernel) rfl, tk1 18 rfl rfl, tk9 180 rfl rfl, by decide⟩
theorem v_Mod_342 : CV "WardEngineModel" 342 "WardEngineModel" m_Mod_operand 0 := ⟨⟨rfl, by decide, by decide, by decide +kernel⟩, tk9 129 rfl rfl, tk9 131 rfl rfl, tb_sel 68 (by decide +kernel) rfl, tk1 18 rfl rfl, tk9 132 rfl rfl, by decide⟩
theorem v_Mod_346 : CV "WardEngineModel" 346 "WardEngineModel" m_Mod_operator 0 := ⟨⟨rfl, by decide, by decide, by decide +kernel⟩, tk9 157 rfl rfl, tk9 159 rfl rfl, tb_sel 75 (by decide +kernel) rfl, tk1 18 rfl rfl, tk9 160 rfl rfl, by decide⟩
theorem v_Mod_352 : CV "WardEngineModel" 352 "WardEngineModel" m_Mod_need 1 := ⟨⟨rfl, by decide, by decide, by decide +kernel⟩, tk9 117 rfl rfl, tk9 119 rfl rfl, tb_sel 65 (by decide +kernel) rfl, tk1 18 rfl rfl, tk9 120 rfl rfl, by decide⟩
theorem v_Mod_355 : CV "WardEngineModel" 355 "WardEngineModel" m_Mod_expression 0 := ⟨⟨rfl, by decide, by decide, by decide +kernel⟩, tk9 125 rfl rfl, tk9 127 rfl rfl, tb_sel 67 (by decide +kernel) rfl, tk1 18 rfl rfl, tk9 128 rfl rfl, by decide⟩
theorem v_Mod_358 : CV "WardEngineModel" 358 "WardEngineModel" m_Mod_tokenIsEnd 0 := ⟨⟨rfl, by decide, by decide, by decide +kernel⟩, tk9 101 rfl rfl, tk9 103 rfl rfl, tb_sel 61 (by decide +kernel) rfl, tk1 18 rfl rfl, tk9 104 rfl rfl, by decide⟩
theorem v_Mod_361 : CV "WardEngineModel" 361 "WardEngineModel" m_Mod_heads 0 := ⟨⟨rfl, by decide, by decide, by decide +kernel⟩, tk9 105 rfl rfl, tk9 107 rfl rfl, tb_sel 62 (by decide +kernel) rfl, tk1 18 rfl rfl, tk9 108 rfl rfl, by decide⟩
theorem v_Mod_364 : CV "WardEngineModel" 364 "WardEngineModel" m_Mod_statement 1 := ⟨⟨rfl, by decide, by decide, by decide +kernel⟩, tk9 121 rfl rfl, tk9 123 rfl rfl, tb_sel 66 (by decide +kernel) rfl, tk1 18 rfl rfl, tk9 124 rfl rfl, by decide⟩
theorem v_Mod_370 : CV "WardEngineModel" 370 "WardEngineModel" m_Mod_readPolicy 0 := ⟨⟨rfl, by decide, by decide, by decide +kernel⟩, tk9 81 rfl rfl, tk9 83 rfl rfl, tb_sel 57 (by decide +kernel) rfl, tk1 18 rfl rfl, tk9 84 rfl rfl, by decide⟩
theorem v_Mod_373 : CV "WardEngineModel" 373 "WardEngineModel" m_Mod_swapTexts 0 := ⟨⟨rfl, by decide, by decide, by decide +kernel⟩, tk9 183 rfl rfl, tk9 185 rfl rfl, tb_sel 81 (by decide +kernel) rfl, tk1 18 rfl rfl, tk9 186 rfl rfl, by decide⟩
theorem s_Mod_421 : CS "WardEngineModel" 421 m_Mod_isWord 1 := ⟨⟨by decide, by decide, by decide +kernel⟩, tk9 203 rfl rfl, tk9 204 rfl rfl, tk1 18 rfl rfl, tk9 205 rfl rfl, by decide⟩
theorem v_Mod_429 : CV "WardEngineModel" 429 "WardEngineModel" m_Mod_takeNumber 3 := ⟨⟨rfl, by decide, by decide, by decide +kernel⟩, tk9 228 rfl rfl, tk9 230 rfl rfl, tb_sel 84 (by decide +kernel) rfl, tk1 18 rfl rfl, tk9 231 rfl rfl, by decide⟩
theorem v_Mod_432 : CV "WardEngineModel" 432 "WardEngineModel" m_Mod_takeAny 0 := ⟨⟨rfl, by decide, by decide, by decide +kernel⟩, tk9 222 rfl rfl, tk9 224 rfl rfl, tb_sel 83 (by decide +kernel) rfl, tk1 18 rfl rfl, tk9 225 rfl rfl, by decide⟩
theorem v_Mod_442 : CV "WardEngineModel" 442 "WardEngineModel" m_Mod_takeAfter 1 := ⟨⟨rfl, by decide, by decide, by decide +kernel⟩, tk9 236 rfl rfl, tk9 238 rfl rfl, tb_sel 86 (by decide +kernel) rfl, tk1 18 rfl rfl, tk9 239 rfl rfl, by decide⟩
theorem v_Mod_448 : CV "WardEngineModel" 448 "WardEngineModel" m_Mod_wordLine 0 := ⟨⟨rfl, by decide, by decide, by decide +kernel⟩, tk9 232 rfl rfl, tk9 234 rfl rfl, tb_sel 85 (by decide +kernel) rfl, tk1 18 rfl rfl, tk9 235 rfl rfl, by decide⟩
theorem v_Mod_451 : CV "WardEngineModel" 451 "WardEngineModel" m_Mod_registerLine 0 := ⟨⟨rfl, by decide, by decide, by decide +kernel⟩, tk10 0 rfl rfl, tk10 2 rfl rfl, tb_sel 87 (by decide +kernel) rfl, tk1 18 rfl rfl, tk10 3 rfl rfl, by decide⟩
theorem v_Mod_454 : CV "WardEngineModel" 454 "WardEngineModel" m_Mod_inputLine 0 := ⟨⟨rfl, by decide, by decide, by decide +kernel⟩, tk10 4 rfl rfl, tk10 6 rfl rfl, tb_sel 88 (by decide +kernel) rfl, tk1 18 rfl rfl, tk10 7 rfl rfl, by decide⟩
theorem v_Mod_457 : CV "WardEngineModel" 457 "WardEngineModel" m_Mod_instructionLine 0 := ⟨⟨rfl, by decide, by decide, by decide +kernel⟩, tk10 8 rfl rfl, tk10 10 rfl rfl, tb_sel 89 (by decide +kernel) rfl, tk1 18 rfl rfl, tk10 11 rfl rfl, by decide⟩
theorem v_Mod_460 : CV "WardEngineModel" 460 "WardEngineModel" m_Mod_readImage 1 := ⟨⟨rfl, by decide, by decide, by decide +kernel⟩, tk9 218 rfl rfl, tk9 220 rfl rfl, tb_sel 82 (by decide +kernel) rfl, tk1 18 rfl rfl, tk9 221 rfl rfl, by decide⟩
theorem v_Mod_468 : CV "WardEngineModel" 468 "WardEngineModel" m_Mod_say 1 := ⟨⟨rfl, by decide, by decide, by decide +kernel⟩, tk10 21 rfl rfl, tk10 23 rfl rfl, tb_sel 91 (by decide +kernel) rfl, tk1 18 rfl rfl, tk10 24 rfl rfl, by decide⟩
theorem v_Mod_480 : CV "WardEngineModel" 480 "WardEngineModel" m_Mod_sayWord 1 := ⟨⟨rfl, by decide, by decide, by decide +kernel⟩, tk10 16 rfl rfl, tk10 18 rfl rfl, tb_sel 90 (by decide +kernel) rfl, tk1 18 rfl rfl, tk10 19 rfl rfl, by decide⟩
theorem v_Mod_483 : CV "WardEngineModel" 483 "WardEngineModel" m_Mod_sayNumber 1 := ⟨⟨rfl, by decide, by decide, by decide +kernel⟩, tk10 26 rfl rfl, tk10 28 rfl rfl, tb_sel 92 (by decide +kernel) rfl, tk1 18 rfl rfl, tk10 29 rfl rfl, by decide⟩
theorem v_Mod_486 : CV "WardEngineModel" 486 "WardEngineModel" m_Mod_sayPart 2 := ⟨⟨rfl, by decide, by decide, by decide +kernel⟩, tk10 33 rfl rfl, tk10 35 rfl rfl, tb_sel 93 (by decide +kernel) rfl, tk1 18 rfl rfl, tk10 36 rfl rfl, by decide⟩
theorem v_Mod_517 : CV "WardEngineModel" 517 "WardEngineModel" m_Mod_pairNumber 2 := ⟨⟨rfl, by decide, by decide, by decide +kernel⟩, tk10 97 rfl rfl, tk10 99 rfl rfl, tb_sel 106 (by decide +kernel) rfl, tk1 18 rfl rfl, tk10 100 rfl rfl, by decide⟩
theorem v_Mod_520 : CV "WardEngineModel" 520 "WardEngineModel" m_Mod_part 2 := ⟨⟨rfl, by decide, by decide, by decide +kernel⟩, tk10 84 rfl rfl, tk10 86 rfl rfl, tb_sel 103 (by decide +kernel) rfl, tk1 18 rfl rfl, tk10 87 rfl rfl, by decide⟩
theorem v_Mod_524 : CV "WardEngineModel" 524 "WardEngineModel" m_Mod_baseOf 1 := ⟨⟨rfl, by decide, by decide, by decide +kernel⟩, tk10 89 rfl rfl, tk10 91 rfl rfl, tb_sel 104 (by decide +kernel) rfl, tk1 18 rfl rfl, tk10 92 rfl rfl, by decide⟩
theorem v_Mod_530 : CV "WardEngineModel" 530 "WardEngineModel" m_Mod_nameValue 1 := ⟨⟨rfl, by decide, by decide, by decide +kernel⟩, tk10 69 rfl rfl, tk10 71 rfl rfl, tb_sel 100 (by decide +kernel) rfl, tk1 18 rfl rfl, tk10 72 rfl rfl, by decide⟩
theorem v_Mod_533 : CV "WardEngineModel" 533 "WardEngineModel" m_Mod_signed 2 := ⟨⟨rfl, by decide, by decide, by decide +kernel⟩, tk10 73 rfl rfl, tk10 75 rfl rfl, tb_sel 101 (by decide +kernel) rfl, tk1 18 rfl rfl, tk10 76 rfl rfl, by decide⟩
theorem s_Mod_536 : CS "WardEngineModel" 536 m_Mod_isOne 1 := ⟨⟨by decide, by decide, by decide +kernel⟩, tk10 77 rfl rfl, tk10 78 rfl rfl, tk1 18 rfl rfl, tk10 79 rfl rfl, by decide⟩
theorem v_Mod_539 : CV "WardEngineModel" 539 "WardEngineModel" m_Mod_one 2 := ⟨⟨rfl, by decide, by decide, by decide +kernel⟩, tk10 80 rfl rfl, tk10 82 rfl rfl, tb_sel 102 (by decide +kernel) rfl, tk1 18 rfl rfl, tk10 83 rfl rfl, by decide⟩
theorem v_Mod_542 : CV "WardEngineModel" 542 "WardEngineModel" m_Mod_two 3 := ⟨⟨rfl, by decide, by decide, by decide +kernel⟩, tk10 93 rfl rfl, tk10 95 rfl rfl, tb_sel 105 (by decide +kernel) rfl, tk1 18 rfl rfl, tk10 96 rfl rfl, by decide⟩
theorem v_Mod_555 : CV "WardEngineModel" 555 "WardEngineModel" m_Mod_work 2 := ⟨⟨rfl, by decide, by decide, by decide +kernel⟩, tk10 65 rfl rfl, tk10 67 rfl rfl, tb_sel 99 (by decide +kernel) rfl, tk1 18 rfl rfl, tk10 68 rfl rfl, by decide⟩
theorem v_Mod_561 : CV "WardEngineModel" 561 "WardEngineModel" m_Mod_rule 1 := ⟨⟨rfl, by decide, by decide, by decide +kernel⟩, tk10 61 rfl rfl, tk10 63 rfl rfl, tb_sel 98 (by decide +kernel) rfl, tk1 18 rfl rfl, tk10 64 rfl rfl, by decide⟩
theorem v_Mod_564 : CV "WardEngineModel" 564 "WardEngineModel" m_Mod_tells 2 := ⟨⟨rfl, by decide, by decide, by decide +kernel⟩, tk10 101 rfl rfl, tk10 103 rfl rfl, tb_sel 107 (by decide +kernel) rfl, tk1 18 rfl rfl, tk10 104 rfl rfl, by decide⟩
theorem v_Mod_568 : CV "WardEngineModel" 568 "WardEngineModel" m_Mod_freeWords 1 := ⟨⟨rfl, by decide, by decide, by decide +kernel⟩, tk10 109 rfl rfl, tk10 111 rfl rfl, tb_sel 109 (by decide +kernel) rfl, tk1 18 rfl rfl, tk10 112 rfl rfl, by decide⟩
theorem v_Mod_571 : CV "WardEngineModel" 571 "WardEngineModel" m_Mod_between 2 := ⟨⟨rfl, by decide, by decide, by decide +kernel⟩, tk10 117 rfl rfl, tk10 119 rfl rfl, tb_sel 111 (by decide +kernel) rfl, tk1 18 rfl rfl, tk10 120 rfl rfl, by decide⟩
theorem v_Mod_574 : CV "WardEngineModel" 574 "WardEngineModel" m_Mod_result 0 := ⟨⟨rfl, by decide, by decide, by decide +kernel⟩, tk10 121 rfl rfl, tk10 123 rfl rfl, tb_sel 112 (by decide +kernel) rfl, tk1 18 rfl rfl, tk10 124 rfl rfl, by decide⟩
theorem v_Mod_577 : CV "WardEngineModel" 577 "WardEngineModel" m_Mod_takeInput 0 := ⟨⟨rfl, by decide, by decide, by decide +kernel⟩, tk10 125 rfl rfl, tk10 127 rfl rfl, tb_sel 113 (by decide +kernel) rfl, tk1 18 rfl rfl, tk10 128 rfl rfl, by decide⟩
theorem v_Mod_580 : CV "WardEngineModel" 580 "WardEngineModel" m_Mod_note 3 := ⟨⟨rfl, by decide, by decide, by decide +kernel⟩, tk10 49 rfl rfl, tk10 51 rfl rfl, tb_sel 95 (by decide +kernel) rfl, tk1 18 rfl rfl, tk10 52 rfl rfl, by decide⟩
theorem v_Mod_583 : CV "WardEngineModel" 583 "WardEngineModel" m_Mod_ask 0 := ⟨⟨rfl, by decide, by decide, by decide +kernel⟩, tk10 57 rfl rfl, tk10 59 rfl rfl, tb_sel 97 (by decide +kernel) rfl, tk1 18 rfl rfl, tk10 60 rfl rfl, by decide⟩
theorem v_Mod_586 : CV "WardEngineModel" 586 "WardEngineModel" m_Mod_make 0 := ⟨⟨rfl, by decide, by decide, by decide +kernel⟩, tk10 105 rfl rfl, tk10 107 rfl rfl, tb_sel 108 (by decide +kernel) rfl, tk1 18 rfl rfl, tk10 108 rfl rfl, by decide⟩
theorem v_Mod_589 : CV "WardEngineModel" 589 "WardEngineModel" m_Mod_perform 0 := ⟨⟨rfl, by decide, by decide, by decide +kernel⟩, tk10 113 rfl rfl, tk10 115 rfl rfl, tb_sel 110 (by decide +kernel) rfl, tk1 18 rfl rfl, tk10 116 rfl rfl, by decide⟩
theorem v_Mod_592 : CV "WardEngineModel" 592 "WardEngineModel" m_Mod_noteAt 4 := ⟨⟨rfl, by decide, by decide, by decide +kernel⟩, tk10 53 rfl rfl, tk10 55 rfl rfl, tb_sel 96 (by decide +kernel) rfl, tk1 18 rfl rfl, tk10 56 rfl rfl, by decide⟩
theorem v_Mod_596 : CV "WardEngineModel" 596 "WardEngineModel" m_Mod_instruct 0 := ⟨⟨rfl, by decide, by decide, by decide +kernel⟩, tk10 45 rfl rfl, tk10 47 rfl rfl, tb_sel 94 (by decide +kernel) rfl, tk1 18 rfl rfl, tk10 48 rfl rfl, by decide⟩
theorem v_Mod_599 : CV "WardEngineModel" 599 "WardEngineModel" m_Mod_namesOf 2 := ⟨⟨rfl, by decide, by decide, by decide +kernel⟩, tk10 173 rfl rfl, tk10 175 rfl rfl, tb_sel 114 (by decide +kernel) rfl, tk1 18 rfl rfl, tk10 176 rfl rfl, by decide⟩
theorem v_Mod_605 : CV "WardEngineModel" 605 "WardEngineModel" m_Mod_setCase 3 := ⟨⟨rfl, by decide, by decide, by decide +kernel⟩, tk10 177 rfl rfl, tk10 179 rfl rfl, tb_sel 115 (by decide +kernel) rfl, tk1 18 rfl rfl, tk10 180 rfl rfl, by decide⟩
theorem v_Mod_609 : CV "WardEngineModel" 609 "WardEngineModel" m_Mod_answerUnlike 2 := ⟨⟨rfl, by decide, by decide, by decide +kernel⟩, tk10 181 rfl rfl, tk10 183 rfl rfl, tb_sel 116 (by decide +kernel) rfl, tk1 18 rfl rfl, tk10 184 rfl rfl, by decide⟩
theorem v_Mod_612 : CV "WardEngineModel" 612 "WardEngineModel" m_Mod_moveRow 4 := ⟨⟨rfl, by decide, by decide, by decide +kernel⟩, tk8 29 rfl rfl, tk8 31 rfl rfl, tb_sel 55 (by decide +kernel) rfl, tk1 18 rfl rfl, tk8 32 rfl rfl, by decide⟩
theorem v_Mod_616 : CV "WardEngineModel" 616 "WardEngineModel" m_Mod_firstUnlike 4 := ⟨⟨rfl, by decide, by decide, by decide +kernel⟩, tk10 201 rfl rfl, tk10 203 rfl rfl, tb_sel 117 (by decide +kernel) rfl, tk1 18 rfl rfl, tk10 204 rfl rfl, by decide⟩
theorem v_Law_7 : CV "WardEngineLaw" 7 "WardEngine" m_Eng_put 1 := ⟨⟨rfl, by decide, by decide, by decide +kernel⟩, tk4 123 rfl rfl, tk4 124 rfl rfl, tk4 125 rfl rfl, tk1 1 rfl rfl, tk4 126 rfl rfl, by decide⟩
theorem v_Law_17 : CV "WardEngineLaw" 17 "WardEngine" m_Eng_end 1 := ⟨⟨rfl, by decide, by decide, by decide +kernel⟩, tk4 223 rfl rfl, tk4 224 rfl rfl, tk4 225 rfl rfl, tk1 1 rfl rfl, tk4 226 rfl rfl, by decide⟩
theorem v_Law_21 : CV "WardEngineLaw" 21 "WardEngine" m_Eng_listing 2 := ⟨⟨rfl, by decide, by decide, by decide +kernel⟩, tk4 232 rfl rfl, tk4 233 rfl rfl, tk4 234 rfl rfl, tk1 1 rfl rfl, tk4 235 rfl rfl, by decide⟩
theorem v_Law_27 : CV "WardEngineLaw" 27 "WardEngine" m_Eng_codeOf 2 := ⟨⟨rfl, by decide, by decide, by decide +kernel⟩, tk6 56 rfl rfl, tk6 57 rfl rfl, tk6 58 rfl rfl, tk1 1 rfl rfl, tk6 59 rfl rfl, by decide⟩
theorem v_Law_30 : CV "WardEngineLaw" 30 "WardEngine" m_Eng_code 3 := ⟨⟨rfl, by decide, by decide, by decide +kernel⟩, tk6 65 rfl rfl, tk6 66 rfl rfl, tk6 67 rfl rfl, tk1 1 rfl rfl, tk6 68 rfl rfl, by decide⟩
theorem v_Law_34 : CV "WardEngineLaw" 34 "WardEngine" m_Eng_word 4 := ⟨⟨rfl, by decide, by decide, by decide +kernel⟩, tk6 73 rfl rfl, tk6 74 rfl rfl, tk6 75 rfl rfl, tk1 1 rfl rfl, tk6 76 rfl rfl, by decide⟩
theorem v_Law_38 : CV "WardEngineLaw" 38 "WardEngine" m_Eng_register 3 := ⟨⟨rfl, by decide, by decide, by decide +kernel⟩, tk6 82 rfl rfl, tk6 83 rfl rfl, tk6 84 rfl rfl, tk1 1 rfl rfl, tk6 85 rfl rfl, by decide⟩
theorem v_Law_41 : CV "WardEngineLaw" 41 "WardEngine" m_Eng_input 2 := ⟨⟨rfl, by decide, by decide, by decide +kernel⟩, tk6 91 rfl rfl, tk6 92 rfl rfl, tk6 93 rfl rfl, tk1 1 rfl rfl, tk6 94 rfl rfl, by decide⟩
theorem v_Law_44 : CV "WardEngineLaw" 44 "WardEngine" m_Eng_run 1 := ⟨⟨rfl, by decide, by decide, by decide +kernel⟩, tk6 101 rfl rfl, tk6 102 rfl rfl, tk6 103 rfl rfl, tk1 1 rfl rfl, tk6 104 rfl rfl, by decide⟩
theorem v_Law_49 : CV "WardEngineLaw" 49 "WardEngine" m_Eng_state 1 := ⟨⟨rfl, by decide, by decide, by decide +kernel⟩, tk7 45 rfl rfl, tk7 46 rfl rfl, tk7 47 rfl rfl, tk1 1 rfl rfl, tk7 48 rfl rfl, by decide⟩
theorem v_Law_52 : CV "WardEngineLaw" 52 "WardEngine" m_Eng_registerOf 2 := ⟨⟨rfl, by decide, by decide, by decide +kernel⟩, tk7 53 rfl rfl, tk7 54 rfl rfl, tk7 55 rfl rfl, tk1 1 rfl rfl, tk7 56 rfl rfl, by decide⟩
theorem v_Law_55 : CV "WardEngineLaw" 55 "WardEngine" m_Eng_wordOf 2 := ⟨⟨rfl, by decide, by decide, by decide +kernel⟩, tk7 60 rfl rfl, tk7 61 rfl rfl, tk7 62 rfl rfl, tk1 1 rfl rfl, tk7 63 rfl rfl, by decide⟩
theorem v_Law_58 : CV "WardEngineLaw" 58 "WardEngine" m_Eng_output 1 := ⟨⟨rfl, by decide, by decide, by decide +kernel⟩, tk7 68 rfl rfl, tk7 69 rfl rfl, tk7 70 rfl rfl, tk1 1 rfl rfl, tk7 71 rfl rfl, by decide⟩
theorem v_Law_61 : CV "WardEngineLaw" 61 "WardEngine" m_Eng_pairOf 2 := ⟨⟨rfl, by decide, by decide, by decide +kernel⟩, tk7 81 rfl rfl, tk7 82 rfl rfl, tk7 83 rfl rfl, tk1 1 rfl rfl, tk7 84 rfl rfl, by decide⟩
theorem v_Law_64 : CV "WardEngineLaw" 64 "WardEngine" m_Eng_names 1 := ⟨⟨rfl, by decide, by decide, by decide +kernel⟩, tk7 89 rfl rfl, tk7 90 rfl rfl, tk7 91 rfl rfl, tk1 1 rfl rfl, tk7 92 rfl rfl, by decide⟩
theorem v_Law_67 : CV "WardEngineLaw" 67 "WardEngine" m_Eng_journal 2 := ⟨⟨rfl, by decide, by decide, by decide +kernel⟩, tk7 97 rfl rfl, tk7 98 rfl rfl, tk7 99 rfl rfl, tk1 1 rfl rfl, tk7 100 rfl rfl, by decide⟩
theorem v_Law_70 : CV "WardEngineLaw" 70 "WardEngine" m_Eng_count 2 := ⟨⟨rfl, by decide, by decide, by decide +kernel⟩, tk7 110 rfl rfl, tk7 111 rfl rfl, tk7 112 rfl rfl, tk1 1 rfl rfl, tk7 113 rfl rfl, by decide⟩
theorem v_Law_73 : CV "WardEngineLaw" 73 "WardEngine" m_Eng_cacheOf 2 := ⟨⟨rfl, by decide, by decide, by decide +kernel⟩, tk7 118 rfl rfl, tk7 119 rfl rfl, tk7 120 rfl rfl, tk1 1 rfl rfl, tk7 121 rfl rfl, by decide⟩
theorem v_Law_76 : CV "WardEngineLaw" 76 "WardEngine" m_Eng_differ 2 := ⟨⟨rfl, by decide, by decide, by decide +kernel⟩, tk7 127 rfl rfl, tk7 128 rfl rfl, tk7 129 rfl rfl, tk1 1 rfl rfl, tk7 130 rfl rfl, by decide⟩
theorem v_Law_79 : CV "WardEngineLaw" 79 "WardEngine" m_Eng_witness 1 := ⟨⟨rfl, by decide, by decide, by decide +kernel⟩, tk7 167 rfl rfl, tk7 168 rfl rfl, tk7 169 rfl rfl, tk1 1 rfl rfl, tk7 170 rfl rfl, by decide⟩
theorem v_Law_82 : CV "WardEngineLaw" 82 "WardEngine" m_Eng_unlike 1 := ⟨⟨rfl, by decide, by decide, by decide +kernel⟩, tk7 176 rfl rfl, tk7 177 rfl rfl, tk7 178 rfl rfl, tk1 1 rfl rfl, tk7 179 rfl rfl, by decide⟩
theorem v_Law_94 : CV "WardEngineLaw" 94 "WardEngineModel" m_Mod_put 1 := ⟨⟨rfl, by decide, by decide, by decide +kernel⟩, tk9 62 rfl rfl, tk9 63 rfl rfl, tk9 64 rfl rfl, tk1 18 rfl rfl, tk9 65 rfl rfl, by decide⟩
theorem v_Law_95 : CV "WardEngineLaw" 95 "WardEngineModel" m_Mod_thrown 0 := ⟨⟨rfl, by decide, by decide, by decide +kernel⟩, tk9 58 rfl rfl, tk9 59 rfl rfl, tk9 60 rfl rfl, tk1 18 rfl rfl, tk9 61 rfl rfl, by decide⟩
theorem v_Law_102 : CV "WardEngineLaw" 102 "WardEngineModel" m_Mod_end 1 := ⟨⟨rfl, by decide, by decide, by decide +kernel⟩, tk9 73 rfl rfl, tk9 74 rfl rfl, tk9 75 rfl rfl, tk1 18 rfl rfl, tk9 76 rfl rfl, by decide⟩
theorem v_Law_103 : CV "WardEngineLaw" 103 "WardEngine" m_Eng_policy 0 := ⟨⟨rfl, by decide, by decide, by decide +kernel⟩, tk3 44 rfl rfl, tk3 45 rfl rfl, tk3 46 rfl rfl, tk1 1 rfl rfl, tk3 47 rfl rfl, by decide⟩
theorem v_Law_106 : CV "WardEngineLaw" 106 "WardEngineModel" m_Mod_policy 0 := ⟨⟨rfl, by decide, by decide, by decide +kernel⟩, tk9 77 rfl rfl, tk9 78 rfl rfl, tk9 79 rfl rfl, tk1 18 rfl rfl, tk9 80 rfl rfl, by decide⟩
theorem v_Law_107 : CV "WardEngineLaw" 107 "WardEngine" m_Eng_image 0 := ⟨⟨rfl, by decide, by decide, by decide +kernel⟩, tk3 224 rfl rfl, tk3 225 rfl rfl, tk3 226 rfl rfl, tk1 1 rfl rfl, tk3 227 rfl rfl, by decide⟩
theorem v_Law_110 : CV "WardEngineLaw" 110 "WardEngineModel" m_Mod_image 0 := ⟨⟨rfl, by decide, by decide, by decide +kernel⟩, tk9 214 rfl rfl, tk9 215 rfl rfl, tk9 216 rfl rfl, tk1 18 rfl rfl, tk9 217 rfl rfl, by decide⟩
theorem v_Law_114 : CV "WardEngineLaw" 114 "WardEngineModel" m_Mod_listing 2 := ⟨⟨rfl, by decide, by decide, by decide +kernel⟩, tk10 12 rfl rfl, tk10 13 rfl rfl, tk10 14 rfl rfl, tk1 18 rfl rfl, tk10 15 rfl rfl, by decide⟩
theorem v_Law_117 : CV "WardEngineLaw" 117 "WardEngineModel" m_Mod_codeOf 2 := ⟨⟨rfl, by decide, by decide, by decide +kernel⟩, tk10 37 rfl rfl, tk10 38 rfl rfl, tk10 39 rfl rfl, tk1 18 rfl rfl, tk10 40 rfl rfl, by decide⟩
theorem v_Law_118 : CV "WardEngineLaw" 118 "WardEngine" m_Eng_begin 1 := ⟨⟨rfl, by decide, by decide, by decide +kernel⟩, tk4 76 rfl rfl, tk4 77 rfl rfl, tk4 78 rfl rfl, tk1 1 rfl rfl, tk4 79 rfl rfl, by decide⟩
theorem v_Law_121 : CV "WardEngineLaw" 121 "WardEngineModel" m_Mod_begin 1 := ⟨⟨rfl, by decide, by decide, by decide +kernel⟩, tk9 191 rfl rfl, tk9 192 rfl rfl, tk9 193 rfl rfl, tk1 18 rfl rfl, tk9 194 rfl rfl, by decide⟩
theorem v_Law_125 : CV "WardEngineLaw" 125 "WardEngineModel" m_Mod_code 3 := ⟨⟨rfl, by decide, by decide, by decide +kernel⟩, tk9 195 rfl rfl, tk9 196 rfl rfl, tk9 197 rfl rfl, tk1 18 rfl rfl, tk9 198 rfl rfl, by decide⟩
theorem v_Law_129 : CV "WardEngineLaw" 129 "WardEngineModel" m_Mod_word 4 := ⟨⟨rfl, by decide, by decide, by decide +kernel⟩, tk9 199 rfl rfl, tk9 200 rfl rfl, tk9 201 rfl rfl, tk1 18 rfl rfl, tk9 202 rfl rfl, by decide⟩
theorem v_Law_132 : CV "WardEngineLaw" 132 "WardEngineModel" m_Mod_register 3 := ⟨⟨rfl, by decide, by decide, by decide +kernel⟩, tk9 206 rfl rfl, tk9 207 rfl rfl, tk9 208 rfl rfl, tk1 18 rfl rfl, tk9 209 rfl rfl, by decide⟩
theorem v_Law_135 : CV "WardEngineLaw" 135 "WardEngineModel" m_Mod_input 2 := ⟨⟨rfl, by decide, by decide, by decide +kernel⟩, tk9 210 rfl rfl, tk9 211 rfl rfl, tk9 212 rfl rfl, tk1 18 rfl rfl, tk9 213 rfl rfl, by decide⟩
theorem v_Law_138 : CV "WardEngineLaw" 138 "WardEngineModel" m_Mod_run 1 := ⟨⟨rfl, by decide, by decide, by decide +kernel⟩, tk10 41 rfl rfl, tk10 42 rfl rfl, tk10 43 rfl rfl, tk1 18 rfl rfl, tk10 44 rfl rfl, by decide⟩
theorem v_Law_141 : CV "WardEngineLaw" 141 "WardEngineModel" m_Mod_state 1 := ⟨⟨rfl, by decide, by decide, by decide +kernel⟩, tk10 129 rfl rfl, tk10 130 rfl rfl, tk10 131 rfl rfl, tk1 18 rfl rfl, tk10 132 rfl rfl, by decide⟩
theorem v_Law_144 : CV "WardEngineLaw" 144 "WardEngineModel" m_Mod_registerOf 2 := ⟨⟨rfl, by decide, by decide, by decide +kernel⟩, tk10 133 rfl rfl, tk10 134 rfl rfl, tk10 135 rfl rfl, tk1 18 rfl rfl, tk10 136 rfl rfl, by decide⟩
theorem v_Law_147 : CV "WardEngineLaw" 147 "WardEngineModel" m_Mod_wordOf 2 := ⟨⟨rfl, by decide, by decide, by decide +kernel⟩, tk10 137 rfl rfl, tk10 138 rfl rfl, tk10 139 rfl rfl, tk1 18 rfl rfl, tk10 140 rfl rfl, by decide⟩
theorem v_Law_150 : CV "WardEngineLaw" 150 "WardEngineModel" m_Mod_output 1 := ⟨⟨rfl, by decide, by decide, by decide +kernel⟩, tk10 141 rfl rfl, tk10 142 rfl rfl, tk10 143 rfl rfl, tk1 18 rfl rfl, tk10 144 rfl rfl, by decide⟩
theorem v_Law_153 : CV "WardEngineLaw" 153 "WardEngineModel" m_Mod_pairOf 2 := ⟨⟨rfl, by decide, by decide, by decide +kernel⟩, tk10 145 rfl rfl, tk10 146 rfl rfl, tk10 147 rfl rfl, tk1 18 rfl rfl, tk10 148 rfl rfl, by decide⟩
theorem v_Law_156 : CV "WardEngineLaw" 156 "WardEngineModel" m_Mod_names 1 := ⟨⟨rfl, by decide, by decide, by decide +kernel⟩, tk9 187 rfl rfl, tk9 188 rfl rfl, tk9 189 rfl rfl, tk1 18 rfl rfl, tk9 190 rfl rfl, by decide⟩
theorem v_Law_157 : CV "WardEngineLaw" 157 "WardEngine" m_Eng_blame 0 := ⟨⟨rfl, by decide, by decide, by decide +kernel⟩, tk4 81 rfl rfl, tk4 82 rfl rfl, tk4 83 rfl rfl, tk1 1 rfl rfl, tk4 84 rfl rfl, by decide⟩
theorem v_Law_160 : CV "WardEngineLaw" 160 "WardEngineModel" m_Mod_blame 0 := ⟨⟨rfl, by decide, by decide, by decide +kernel⟩, tk10 149 rfl rfl, tk10 150 rfl rfl, tk10 151 rfl rfl, tk1 18 rfl rfl, tk10 152 rfl rfl, by decide⟩
theorem v_Law_163 : CV "WardEngineLaw" 163 "WardEngineModel" m_Mod_journal 2 := ⟨⟨rfl, by decide, by decide, by decide +kernel⟩, tk10 153 rfl rfl, tk10 154 rfl rfl, tk10 155 rfl rfl, tk1 18 rfl rfl, tk10 156 rfl rfl, by decide⟩
theorem v_Law_166 : CV "WardEngineLaw" 166 "WardEngineModel" m_Mod_count 2 := ⟨⟨rfl, by decide, by decide, by decide +kernel⟩, tk10 157 rfl rfl, tk10 158 rfl rfl, tk10 159 rfl rfl, tk1 18 rfl rfl, tk10 160 rfl rfl, by decide⟩
theorem v_Law_169 : CV "WardEngineLaw" 169 "WardEngineModel" m_Mod_cacheOf 2 := ⟨⟨rfl, by decide, by decide, by decide +kernel⟩, tk10 161 rfl rfl, tk10 162 rfl rfl, tk10 163 rfl rfl, tk1 18 rfl rfl, tk10 164 rfl rfl, by decide⟩
theorem v_Law_170 : CV "WardEngineLaw" 170 "WardEngine" m_Eng_keep 0 := ⟨⟨rfl, by decide, by decide, by decide +kernel⟩, tk4 85 rfl rfl, tk4 86 rfl rfl, tk4 87 rfl rfl, tk1 1 rfl rfl, tk4 88 rfl rfl, by decide⟩
theorem v_Law_173 : CV "WardEngineLaw" 173 "WardEngineModel" m_Mod_keep 0 := ⟨⟨rfl, by decide, by decide, by decide +kernel⟩, tk10 165 rfl rfl, tk10 166 rfl rfl, tk10 167 rfl rfl, tk1 18 rfl rfl, tk10 168 rfl rfl, by decide⟩
theorem v_Law_176 : CV "WardEngineLaw" 176 "WardEngineModel" m_Mod_differ 2 := ⟨⟨rfl, by decide, by decide, by decide +kernel⟩, tk10 169 rfl rfl, tk10 170 rfl rfl, tk10 171 rfl rfl, tk1 18 rfl rfl, tk10 172 rfl rfl, by decide⟩
theorem v_Law_179 : CV "WardEngineLaw" 179 "WardEngineModel" m_Mod_witness 1 := ⟨⟨rfl, by decide, by decide, by decide +kernel⟩, tk10 185 rfl rfl, tk10 186 rfl rfl, tk10 187 rfl rfl, tk1 18 rfl rfl, tk10 188 rfl rfl, by decide⟩
theorem v_Law_180 : CV "WardEngineLaw" 180 "WardEngine" m_Eng_twin 0 := ⟨⟨rfl, by decide, by decide, by decide +kernel⟩, tk4 100 rfl rfl, tk4 101 rfl rfl, tk4 102 rfl rfl, tk1 1 rfl rfl, tk4 103 rfl rfl, by decide⟩
theorem v_Law_183 : CV "WardEngineLaw" 183 "WardEngineModel" m_Mod_twin 0 := ⟨⟨rfl, by decide, by decide, by decide +kernel⟩, tk10 189 rfl rfl, tk10 190 rfl rfl, tk10 191 rfl rfl, tk1 18 rfl rfl, tk10 192 rfl rfl, by decide⟩
theorem v_Law_184 : CV "WardEngineLaw" 184 "WardEngine" m_Eng_swap 0 := ⟨⟨rfl, by decide, by decide, by decide +kernel⟩, tk4 114 rfl rfl, tk4 115 rfl rfl, tk4 116 rfl rfl, tk1 1 rfl rfl, tk4 117 rfl rfl, by decide⟩
theorem v_Law_187 : CV "WardEngineLaw" 187 "WardEngineModel" m_Mod_swap 0 := ⟨⟨rfl, by decide, by decide, by decide +kernel⟩, tk10 193 rfl rfl, tk10 194 rfl rfl, tk10 195 rfl rfl, tk1 18 rfl rfl, tk10 196 rfl rfl, by decide⟩
theorem v_Law_190 : CV "WardEngineLaw" 190 "WardEngineModel" m_Mod_unlike 1 := ⟨⟨rfl, by decide, by decide, by decide +kernel⟩, tk10 197 rfl rfl, tk10 198 rfl rfl, tk10 199 rfl rfl, tk1 18 rfl rfl, tk10 200 rfl rfl, by decide⟩
