/-! ===== any step of both (written by wip/gen/ops12.py) ===== -/
theorem zk_ops : ∀ op, op < 256 → 0 < (zsh op).1 → op ∈ [0, 1, 2, 3, 4, 5, 6, 7, 8, 9, 10, 16, 17, 21, 22, 25, 46, 47, 50, 51, 52, 53, 54, 55, 58, 79, 80, 83, 84, 85, 86, 87, 88, 89, 95, 96, 97, 100, 101, 104, 105, 108, 109, 112, 113, 116, 117, 120, 121, 122, 123, 124, 125, 126, 127, 128, 129, 130, 131, 132, 133, 136, 145, 146, 147, 148, 153, 154, 155, 156, 157, 158, 159, 160, 161, 162, 163, 164, 165, 166, 167, 172, 173, 176, 177, 180, 181, 184, 187, 188, 189, 190, 191, 192, 193, 198, 199] := by decide +kernel
section ZAN
variable {N w b K S f0 : Nat} {F ρ α π : Nat → Nat} {D : Nat → Nat → Prop} {C : zC} {M : zM} {r : zv_X} {Q : zQo} {φ : Nat → zFd}
theorem zp_step (hN : 1700 < N) (hw : w ≤ 400) (hS : S + 1 < 2 ^ 31) (h7 : ∀ k, k < 7 → F k = 0) (hI : zInh K F ρ π) (hR : zRn w b K F ρ α π r Q D C M S f0 φ) (hO : zOn C M) : zStp N w b K F ρ α π r Q C M S := by
  rcases hφ : φ f0 with ⟨t, p, m, lt, st⟩
  obtain ⟨hc, hm, hK, _⟩ := hR.ty hO hφ (op := uC (Q.2.2.1 m) p) rfl
  have h11 := hc.2.2.2.2.2.2.2.2.2.2.1
  have h12 := hc.2.2.2.2.2.2.2.2.2.2.2
  have hmem := zk_ops (uC (Q.2.2.1 m) p) (hK.2.1 p (by omega)) h11
  simp only [List.mem_cons, List.not_mem_nil, or_false] at hmem
  rcases hmem with h | h | h | h | h | h | h | h | h | h | h | h | h | h | h | h | h | h | h | h | h | h | h | h | h | h | h | h | h | h | h | h | h | h | h | h | h | h | h | h | h | h | h | h | h | h | h | h | h | h | h | h | h | h | h | h | h | h | h | h | h | h | h | h | h | h | h | h | h | h | h | h | h | h | h | h | h | h | h | h | h | h | h | h | h | h | h | h | h | h | h | h | h | h | h | h | h
  · exact zs_0 hR hO hφ h
  · exact zs_1 hR hO hφ h
  · exact zs_2 hR hO hφ h
  · exact zs_3 hR hO hφ h
  · exact zs_4 hR hO hφ h
  · exact zs_5 hR hO hφ h
  · exact zs_6 hR hO hφ h
  · exact zs_7 hR hO hφ h
  · exact zs_8 hR hO hφ h
  · exact zs_9 hR hO hφ h
  · exact zs_10 hR hO hφ h
  · exact zs_16 hR hO hφ h
  · exact zs_17 hR hO hφ h
  · exact zs_21 hR hO hφ h
  · exact zs_22 hR hO hφ h
  · exact zs_25 hR hO hφ h
  · exact zs_46 hN hw hS h7 hR hO hφ h
  · exact zs_47 hN hw hS h7 hR hO hφ h
  · exact zs_50 hN hw hS h7 hR hO hφ h
  · exact zs_51 hN hw hS h7 hR hO hφ h
  · exact zs_52 hN hw hS h7 hR hO hφ h
  · exact zs_53 hN hw hS h7 hR hO hφ h
  · exact zs_54 hR hO hφ h
  · exact zs_55 hR hO hφ h
  · exact zs_58 hR hO hφ h
  · exact zs_79 hN hw hS h7 hR hO hφ h
  · exact zs_80 hN hw hS h7 hR hO hφ h
  · exact zs_83 hN hw hS h7 hR hO hφ h
  · exact zs_84 hN hw hS h7 hR hO hφ h
  · exact zs_85 hN hw hS h7 hR hO hφ h
  · exact zs_86 hN hw hS h7 hR hO hφ h
  · exact zs_87 hR hO hφ h
  · exact zs_88 hR hO hφ h
  · exact zs_89 hR hO hφ h
  · exact zs_95 hR hO hφ h
  · exact zs_96 hR hO hφ h
  · exact zs_97 hR hO hφ h
  · exact zs_100 hR hO hφ h
  · exact zs_101 hR hO hφ h
  · exact zs_104 hR hO hφ h
  · exact zs_105 hR hO hφ h
  · exact zs_108 hN hw hS h7 hR hO hφ h
  · exact zs_109 hN hw hS h7 hR hO hφ h
  · exact zs_112 hN hw hS h7 hR hO hφ h
  · exact zs_113 hN hw hS h7 hR hO hφ h
  · exact zs_116 hR hO hφ h
  · exact zs_117 hR hO hφ h
  · exact zs_120 hR hO hφ h
  · exact zs_121 hR hO hφ h
  · exact zs_122 hR hO hφ h
  · exact zs_123 hR hO hφ h
  · exact zs_124 hR hO hφ h
  · exact zs_125 hR hO hφ h
  · exact zs_126 hR hO hφ h
  · exact zs_127 hR hO hφ h
  · exact zs_128 hR hO hφ h
  · exact zs_129 hR hO hφ h
  · exact zs_130 hR hO hφ h
  · exact zs_131 hR hO hφ h
  · exact zs_132 hR hO hφ h
  · exact zs_133 hR hO hφ h
  · exact zs_136 hR hO hφ h
  · exact zs_145 hR hO hφ h
  · exact zs_146 hR hO hφ h
  · exact zs_147 hR hO hφ h
  · exact zs_148 hR hO hφ h
  · exact zs_153 hR hO hφ h
  · exact zs_154 hR hO hφ h
  · exact zs_155 hR hO hφ h
  · exact zs_156 hR hO hφ h
  · exact zs_157 hR hO hφ h
  · exact zs_158 hR hO hφ h
  · exact zs_159 hR hO hφ h
  · exact zs_160 hR hO hφ h
  · exact zs_161 hR hO hφ h
  · exact zs_162 hR hO hφ h
  · exact zs_163 hR hO hφ h
  · exact zs_164 hR hO hφ h
  · exact zs_165 hR hO hφ h
  · exact zs_166 hR hO hφ h
  · exact zs_167 hR hO hφ h
  · exact zs_172 hR hO hφ h
  · exact zs_173 hR hO hφ h
  · exact zs_176 hR hO hφ h
  · exact zs_177 hR hO hφ h
  · exact zs_180 hI hN hw hS h7 hR hO hφ h
  · exact zs_181 hI hN hw hS h7 hR hO hφ h
  · exact zs_184 hN hw hS h7 hR hO hφ h
  · exact zs_187 hN hw hS h7 hR hO hφ h
  · exact zs_188 hN hw hS h7 hR hO hφ h
  · exact zs_189 hN hw hS h7 hR hO hφ h
  · exact zs_190 hN hw hS h7 hR hO hφ h
  · exact zs_191 hN hw hS h7 hR hO hφ h
  · exact zs_192 hN hw hS h7 hR hO hφ h
  · exact zs_193 hN hw hS h7 hR hO hφ h
  · exact zs_198 hR hO hφ h
  · exact zs_199 hR hO hφ h
end ZAN
