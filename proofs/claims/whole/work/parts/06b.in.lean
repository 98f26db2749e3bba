/-! the fields of each class, as words of the table -/
theorem inX0 : ∀ w ∈ u_ws RX0 TX0 11, w ∈ tb := (tb_c tw_175 (tb_c tw_177 (tb_c tw_179 (tb_c tw_181 (tb_c tw_183 (tb_c tw_185 (tb_c tw_187 (tb_c tw_189 (tb_c tw_191 (tb_c tw_193 (tb_c tw_195 tb_n)))))))))))
theorem inX1 : ∀ w ∈ u_ws RX1 TX1 2, w ∈ tb := (tb_c tw_71 (tb_c tw_73 tb_n))
theorem inX2 : ∀ w ∈ u_ws RX2 TX2 4, w ∈ tb := (tb_c tw_103 (tb_c tw_105 (tb_c tw_107 (tb_c tw_109 tb_n))))
theorem inX3 : ∀ w ∈ u_ws RX3 TX3 2, w ∈ tb := (tb_c tw_85 (tb_c tw_87 tb_n))
theorem inX4 : ∀ w ∈ u_ws RX4 TX4 6, w ∈ tb := (tb_c tw_570 (tb_c tw_572 (tb_c tw_574 (tb_c tw_576 (tb_c tw_578 (tb_c tw_580 tb_n))))))
theorem inX5 : ∀ w ∈ u_ws RX5 TX5 13, w ∈ tb := (tb_c tw_131 (tb_c tw_133 (tb_c tw_135 (tb_c tw_137 (tb_c tw_139 (tb_c tw_141 (tb_c tw_143 (tb_c tw_145 (tb_c tw_147 (tb_c tw_149 (tb_c tw_151 (tb_c tw_153 (tb_c tw_155 tb_n)))))))))))))
theorem inX6 : ∀ w ∈ u_ws RX6 TX6 9, w ∈ tb := (tb_c tw_207 (tb_c tw_209 (tb_c tw_211 (tb_c tw_213 (tb_c tw_215 (tb_c tw_217 (tb_c tw_219 (tb_c tw_221 (tb_c tw_223 tb_n)))))))))
theorem inX7 : ∀ w ∈ u_ws RX7 TX7 34, w ∈ tb := (tb_c tw_826 (tb_c tw_828 (tb_c tw_830 (tb_c tw_832 (tb_c tw_834 (tb_c tw_836 (tb_c tw_838 (tb_c tw_840 (tb_c tw_842 (tb_c tw_844 (tb_c tw_846 (tb_c tw_848 (tb_c tw_850 (tb_c tw_852 (tb_c tw_854 (tb_c tw_856 (tb_c tw_858 (tb_c tw_860 (tb_c tw_862 (tb_c tw_864 (tb_c tw_866 (tb_c tw_868 (tb_c tw_870 (tb_c tw_872 (tb_c tw_874 (tb_c tw_876 (tb_c tw_878 (tb_c tw_880 (tb_c tw_882 (tb_c tw_884 (tb_c tw_886 (tb_c tw_888 (tb_c tw_890 (tb_c tw_892 tb_n))))))))))))))))))))))))))))))))))
