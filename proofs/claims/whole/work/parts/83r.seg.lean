/-! Pieces of the law and of the calls that it makes, by program out of the tables. -/
theorem f_420_4150 : ftc (PT 420) 4150 = some (4150, .aload_n 1, 1, 0, 0, 0) := by decide +kernel
theorem f_420_4151 : ftc (PT 420) 4151 = some (4151, .aload_n 0, 1, 0, 0, 0) := by decide +kernel
theorem f_420_4152 : ftc (PT 420) 4152 = some (4152, .iload 4, 2, 0, 0, 0) := by decide +kernel
theorem f_420_4154 : ftc (PT 420) 4154 = some (4154, .iconst 1, 1, 0, 0, 0) := by decide +kernel
theorem f_420_4155 : ftc (PT 420) 4155 = some (4155, .iadd, 1, 0, 0, 0) := by decide +kernel
theorem f_420_4156 : ftc (PT 420) 4156 = some (4156, .iaload, 1, 0, 0, 0) := by decide +kernel
theorem f_420_4157 : ftc (PT 420) 4157 = some (4157, .aload_n 0, 1, 0, 0, 0) := by decide +kernel
theorem f_420_4158 : ftc (PT 420) 4158 = some (4158, .iload 4, 2, 0, 0, 0) := by decide +kernel
theorem f_420_4160 : ftc (PT 420) 4160 = some (4160, .iconst 2, 1, 0, 0, 0) := by decide +kernel
theorem f_420_4161 : ftc (PT 420) 4161 = some (4161, .iadd, 1, 0, 0, 0) := by decide +kernel
theorem f_420_4162 : ftc (PT 420) 4162 = some (4162, .iaload, 1, 0, 0, 0) := by decide +kernel
theorem f_420_4163 : ftc (PT 420) 4163 = some (4163, .ifCond .eq 7, 3, 4170, 0, 0) := by decide +kernel
theorem f_420_4166 : ftc (PT 420) 4166 = some (4166, .iconst 1, 1, 0, 0, 0) := by decide +kernel
theorem f_420_4167 : ftc (PT 420) 4167 = some (4167, .goto 4, 3, 4171, 0, 0) := by decide +kernel
theorem f_420_4170 : ftc (PT 420) 4170 = some (4170, .iconst 0, 1, 0, 0, 0) := by decide +kernel
theorem f_420_4171 : ftc (PT 420) 4171 = some (4171, .aload_n 0, 1, 0, 0, 0) := by decide +kernel
theorem f_420_4172 : ftc (PT 420) 4172 = some (4172, .iload 4, 2, 0, 0, 0) := by decide +kernel
theorem f_420_4174 : ftc (PT 420) 4174 = some (4174, .iconst 3, 1, 0, 0, 0) := by decide +kernel
theorem f_420_4175 : ftc (PT 420) 4175 = some (4175, .iadd, 1, 0, 0, 0) := by decide +kernel
theorem f_420_4176 : ftc (PT 420) 4176 = some (4176, .iaload, 1, 0, 0, 0) := by decide +kernel
theorem f_420_4177 : ftc (PT 420) 4177 = some (4177, .aload_n 0, 1, 0, 0, 0) := by decide +kernel
theorem f_420_4178 : ftc (PT 420) 4178 = some (4178, .iload 4, 2, 0, 0, 0) := by decide +kernel
theorem f_420_4180 : ftc (PT 420) 4180 = some (4180, .iconst 4, 1, 0, 0, 0) := by decide +kernel
theorem f_420_4181 : ftc (PT 420) 4181 = some (4181, .iadd, 1, 0, 0, 0) := by decide +kernel
theorem f_420_4182 : ftc (PT 420) 4182 = some (4182, .iaload, 1, 0, 0, 0) := by decide +kernel
theorem f_420_4183 : ftc (PT 420) 4183 = some (4183, .aload_n 0, 1, 0, 0, 0) := by decide +kernel
theorem f_420_4184 : ftc (PT 420) 4184 = some (4184, .iload 4, 2, 0, 0, 0) := by decide +kernel
theorem f_420_4186 : ftc (PT 420) 4186 = some (4186, .iconst 5, 1, 0, 0, 0) := by decide +kernel
theorem f_420_4187 : ftc (PT 420) 4187 = some (4187, .iadd, 1, 0, 0, 0) := by decide +kernel
theorem f_420_4188 : ftc (PT 420) 4188 = some (4188, .iaload, 1, 0, 0, 0) := by decide +kernel
theorem f_420_4189 : ftc (PT 420) 4189 = some (4189, .aload_n 3, 1, 0, 0, 0) := by decide +kernel
theorem f_420_4190 : ftc (PT 420) 4190 = some (4190, .invokestatic 347, 3, 407, 8199, 1517) := by decide +kernel
theorem f_420_4193 : ftc (PT 420) 4193 = some (4193, .istore 5, 2, 0, 0, 0) := by decide +kernel
theorem f_420_4195 : ftc (PT 420) 4195 = some (4195, .aload_n 2, 1, 0, 0, 0) := by decide +kernel
theorem f_420_4196 : ftc (PT 420) 4196 = some (4196, .aload_n 0, 1, 0, 0, 0) := by decide +kernel
theorem f_420_4197 : ftc (PT 420) 4197 = some (4197, .iload 4, 2, 0, 0, 0) := by decide +kernel
theorem f_420_4199 : ftc (PT 420) 4199 = some (4199, .iconst 1, 1, 0, 0, 0) := by decide +kernel
theorem f_420_4200 : ftc (PT 420) 4200 = some (4200, .iadd, 1, 0, 0, 0) := by decide +kernel
theorem f_420_4201 : ftc (PT 420) 4201 = some (4201, .iaload, 1, 0, 0, 0) := by decide +kernel
theorem f_420_4202 : ftc (PT 420) 4202 = some (4202, .aload_n 0, 1, 0, 0, 0) := by decide +kernel
theorem f_420_4203 : ftc (PT 420) 4203 = some (4203, .iload 4, 2, 0, 0, 0) := by decide +kernel
theorem f_420_4205 : ftc (PT 420) 4205 = some (4205, .iconst 2, 1, 0, 0, 0) := by decide +kernel
theorem f_420_4206 : ftc (PT 420) 4206 = some (4206, .iadd, 1, 0, 0, 0) := by decide +kernel
theorem f_420_4207 : ftc (PT 420) 4207 = some (4207, .iaload, 1, 0, 0, 0) := by decide +kernel
theorem f_420_4208 : ftc (PT 420) 4208 = some (4208, .ifCond .eq 7, 3, 4215, 0, 0) := by decide +kernel
theorem f_420_4211 : ftc (PT 420) 4211 = some (4211, .iconst 1, 1, 0, 0, 0) := by decide +kernel
theorem f_420_4212 : ftc (PT 420) 4212 = some (4212, .goto 4, 3, 4216, 0, 0) := by decide +kernel
theorem f_420_4215 : ftc (PT 420) 4215 = some (4215, .iconst 0, 1, 0, 0, 0) := by decide +kernel
theorem f_420_4216 : ftc (PT 420) 4216 = some (4216, .aload_n 0, 1, 0, 0, 0) := by decide +kernel
theorem f_420_4217 : ftc (PT 420) 4217 = some (4217, .iload 4, 2, 0, 0, 0) := by decide +kernel
theorem f_420_4219 : ftc (PT 420) 4219 = some (4219, .iconst 3, 1, 0, 0, 0) := by decide +kernel
theorem f_420_4220 : ftc (PT 420) 4220 = some (4220, .iadd, 1, 0, 0, 0) := by decide +kernel
theorem f_420_4221 : ftc (PT 420) 4221 = some (4221, .iaload, 1, 0, 0, 0) := by decide +kernel
theorem f_420_4222 : ftc (PT 420) 4222 = some (4222, .aload_n 0, 1, 0, 0, 0) := by decide +kernel
theorem f_420_4223 : ftc (PT 420) 4223 = some (4223, .iload 4, 2, 0, 0, 0) := by decide +kernel
theorem f_420_4225 : ftc (PT 420) 4225 = some (4225, .iconst 4, 1, 0, 0, 0) := by decide +kernel
theorem f_420_4226 : ftc (PT 420) 4226 = some (4226, .iadd, 1, 0, 0, 0) := by decide +kernel
theorem f_420_4227 : ftc (PT 420) 4227 = some (4227, .iaload, 1, 0, 0, 0) := by decide +kernel
theorem f_420_4228 : ftc (PT 420) 4228 = some (4228, .aload_n 0, 1, 0, 0, 0) := by decide +kernel
theorem f_420_4229 : ftc (PT 420) 4229 = some (4229, .iload 4, 2, 0, 0, 0) := by decide +kernel
theorem f_420_4231 : ftc (PT 420) 4231 = some (4231, .iconst 5, 1, 0, 0, 0) := by decide +kernel
theorem f_420_4232 : ftc (PT 420) 4232 = some (4232, .iadd, 1, 0, 0, 0) := by decide +kernel
theorem f_420_4233 : ftc (PT 420) 4233 = some (4233, .iaload, 1, 0, 0, 0) := by decide +kernel
theorem f_420_4234 : ftc (PT 420) 4234 = some (4234, .invokevirtual 349, 3, 305, 10412, 2139) := by decide +kernel
theorem f_420_4237 : ftc (PT 420) 4237 = some (4237, .istore 6, 2, 0, 0, 0) := by decide +kernel
theorem f_420_4239 : ftc (PT 420) 4239 = some (4239, .aload_n 2, 1, 0, 0, 0) := by decide +kernel
theorem f_420_4240 : ftc (PT 420) 4240 = some (4240, .invokevirtual 202, 3, 212, 1036, 1769) := by decide +kernel
theorem f_420_4243 : ftc (PT 420) 4243 = some (4243, .iload 5, 2, 0, 0, 0) := by decide +kernel
theorem f_420_4245 : ftc (PT 420) 4245 = some (4245, .if_icmp .eq 5, 3, 4250, 0, 0) := by decide +kernel
theorem f_420_4248 : ftc (PT 420) 4248 = some (4248, .iconst 0, 1, 0, 0, 0) := by decide +kernel
theorem f_420_4249 : ftc (PT 420) 4249 = some (4249, .ireturn, 1, 1, 0, 0) := by decide +kernel
theorem f_420_4250 : ftc (PT 420) 4250 = some (4250, .iload 5, 2, 0, 0, 0) := by decide +kernel
theorem f_420_4252 : ftc (PT 420) 4252 = some (4252, .ifCond .ne 15, 3, 4267, 0, 0) := by decide +kernel
theorem f_420_4255 : ftc (PT 420) 4255 = some (4255, .aload_n 3, 1, 0, 0, 0) := by decide +kernel
theorem f_420_4256 : ftc (PT 420) 4256 = some (4256, .iconst 0, 1, 0, 0, 0) := by decide +kernel
theorem f_420_4257 : ftc (PT 420) 4257 = some (4257, .laload, 1, 0, 0, 0) := by decide +kernel
theorem f_420_4258 : ftc (PT 420) 4258 = some (4258, .iload 6, 2, 0, 0, 0) := by decide +kernel
theorem f_420_4260 : ftc (PT 420) 4260 = some (4260, .i2l, 1, 0, 0, 0) := by decide +kernel
theorem f_420_4261 : ftc (PT 420) 4261 = some (4261, .lcmp, 1, 0, 0, 0) := by decide +kernel
theorem f_420_4262 : ftc (PT 420) 4262 = some (4262, .ifCond .eq 5, 3, 4267, 0, 0) := by decide +kernel
theorem f_420_4265 : ftc (PT 420) 4265 = some (4265, .iconst 0, 1, 0, 0, 0) := by decide +kernel
theorem f_420_4266 : ftc (PT 420) 4266 = some (4266, .ireturn, 1, 1, 0, 0) := by decide +kernel
theorem f_420_4267 : ftc (PT 420) 4267 = some (4267, .goto 650, 3, 4917, 0, 0) := by decide +kernel
theorem f_420_4270 : ftc (PT 420) 4270 = some (4270, .aload_n 1, 1, 0, 0, 0) := by decide +kernel
theorem f_420_4271 : ftc (PT 420) 4271 = some (4271, .aload_n 0, 1, 0, 0, 0) := by decide +kernel
theorem f_420_4272 : ftc (PT 420) 4272 = some (4272, .iload 4, 2, 0, 0, 0) := by decide +kernel
theorem f_420_4274 : ftc (PT 420) 4274 = some (4274, .iconst 1, 1, 0, 0, 0) := by decide +kernel
theorem f_420_4275 : ftc (PT 420) 4275 = some (4275, .iadd, 1, 0, 0, 0) := by decide +kernel
theorem f_420_4276 : ftc (PT 420) 4276 = some (4276, .iaload, 1, 0, 0, 0) := by decide +kernel
theorem f_420_4277 : ftc (PT 420) 4277 = some (4277, .aload_n 0, 1, 0, 0, 0) := by decide +kernel
theorem f_420_4278 : ftc (PT 420) 4278 = some (4278, .iload 4, 2, 0, 0, 0) := by decide +kernel
theorem f_420_4280 : ftc (PT 420) 4280 = some (4280, .iconst 2, 1, 0, 0, 0) := by decide +kernel
theorem f_420_4281 : ftc (PT 420) 4281 = some (4281, .iadd, 1, 0, 0, 0) := by decide +kernel
theorem f_420_4282 : ftc (PT 420) 4282 = some (4282, .iaload, 1, 0, 0, 0) := by decide +kernel
theorem f_420_4283 : ftc (PT 420) 4283 = some (4283, .ifCond .eq 7, 3, 4290, 0, 0) := by decide +kernel
theorem f_420_4286 : ftc (PT 420) 4286 = some (4286, .iconst 1, 1, 0, 0, 0) := by decide +kernel
theorem f_420_4287 : ftc (PT 420) 4287 = some (4287, .goto 4, 3, 4291, 0, 0) := by decide +kernel
theorem f_420_4290 : ftc (PT 420) 4290 = some (4290, .iconst 0, 1, 0, 0, 0) := by decide +kernel
theorem f_420_4291 : ftc (PT 420) 4291 = some (4291, .aload_n 0, 1, 0, 0, 0) := by decide +kernel
theorem f_420_4292 : ftc (PT 420) 4292 = some (4292, .iload 4, 2, 0, 0, 0) := by decide +kernel
theorem f_420_4294 : ftc (PT 420) 4294 = some (4294, .iconst 3, 1, 0, 0, 0) := by decide +kernel
theorem f_420_4295 : ftc (PT 420) 4295 = some (4295, .iadd, 1, 0, 0, 0) := by decide +kernel
theorem f_420_4296 : ftc (PT 420) 4296 = some (4296, .iaload, 1, 0, 0, 0) := by decide +kernel
theorem f_420_4297 : ftc (PT 420) 4297 = some (4297, .aload_n 0, 1, 0, 0, 0) := by decide +kernel
theorem f_420_4298 : ftc (PT 420) 4298 = some (4298, .iload 4, 2, 0, 0, 0) := by decide +kernel
theorem f_420_4300 : ftc (PT 420) 4300 = some (4300, .iconst 4, 1, 0, 0, 0) := by decide +kernel
theorem f_420_4301 : ftc (PT 420) 4301 = some (4301, .iadd, 1, 0, 0, 0) := by decide +kernel
theorem f_420_4302 : ftc (PT 420) 4302 = some (4302, .iaload, 1, 0, 0, 0) := by decide +kernel
theorem f_420_4303 : ftc (PT 420) 4303 = some (4303, .ifCond .eq 7, 3, 4310, 0, 0) := by decide +kernel
theorem f_420_4306 : ftc (PT 420) 4306 = some (4306, .iconst 1, 1, 0, 0, 0) := by decide +kernel
theorem f_420_4307 : ftc (PT 420) 4307 = some (4307, .goto 4, 3, 4311, 0, 0) := by decide +kernel
theorem f_420_4310 : ftc (PT 420) 4310 = some (4310, .iconst 0, 1, 0, 0, 0) := by decide +kernel
theorem f_420_4311 : ftc (PT 420) 4311 = some (4311, .aload_n 0, 1, 0, 0, 0) := by decide +kernel
theorem f_420_4312 : ftc (PT 420) 4312 = some (4312, .iload 4, 2, 0, 0, 0) := by decide +kernel
theorem f_420_4314 : ftc (PT 420) 4314 = some (4314, .iconst 5, 1, 0, 0, 0) := by decide +kernel
theorem f_420_4315 : ftc (PT 420) 4315 = some (4315, .iadd, 1, 0, 0, 0) := by decide +kernel
theorem f_420_4316 : ftc (PT 420) 4316 = some (4316, .iaload, 1, 0, 0, 0) := by decide +kernel
theorem f_420_4317 : ftc (PT 420) 4317 = some (4317, .aload_n 3, 1, 0, 0, 0) := by decide +kernel
theorem f_420_4318 : ftc (PT 420) 4318 = some (4318, .invokestatic 350, 3, 408, 8199, 1528) := by decide +kernel
theorem f_420_4321 : ftc (PT 420) 4321 = some (4321, .istore 5, 2, 0, 0, 0) := by decide +kernel
theorem f_420_4323 : ftc (PT 420) 4323 = some (4323, .aload_n 2, 1, 0, 0, 0) := by decide +kernel
theorem f_420_4324 : ftc (PT 420) 4324 = some (4324, .aload_n 0, 1, 0, 0, 0) := by decide +kernel
theorem f_420_4325 : ftc (PT 420) 4325 = some (4325, .iload 4, 2, 0, 0, 0) := by decide +kernel
theorem f_420_4327 : ftc (PT 420) 4327 = some (4327, .iconst 1, 1, 0, 0, 0) := by decide +kernel
theorem f_420_4328 : ftc (PT 420) 4328 = some (4328, .iadd, 1, 0, 0, 0) := by decide +kernel
theorem f_420_4329 : ftc (PT 420) 4329 = some (4329, .iaload, 1, 0, 0, 0) := by decide +kernel
theorem f_420_4330 : ftc (PT 420) 4330 = some (4330, .aload_n 0, 1, 0, 0, 0) := by decide +kernel
theorem f_420_4331 : ftc (PT 420) 4331 = some (4331, .iload 4, 2, 0, 0, 0) := by decide +kernel
theorem f_420_4333 : ftc (PT 420) 4333 = some (4333, .iconst 2, 1, 0, 0, 0) := by decide +kernel
theorem f_420_4334 : ftc (PT 420) 4334 = some (4334, .iadd, 1, 0, 0, 0) := by decide +kernel
theorem f_420_4335 : ftc (PT 420) 4335 = some (4335, .iaload, 1, 0, 0, 0) := by decide +kernel
theorem f_420_4336 : ftc (PT 420) 4336 = some (4336, .ifCond .eq 7, 3, 4343, 0, 0) := by decide +kernel
theorem f_420_4339 : ftc (PT 420) 4339 = some (4339, .iconst 1, 1, 0, 0, 0) := by decide +kernel
theorem f_420_4340 : ftc (PT 420) 4340 = some (4340, .goto 4, 3, 4344, 0, 0) := by decide +kernel
theorem f_420_4343 : ftc (PT 420) 4343 = some (4343, .iconst 0, 1, 0, 0, 0) := by decide +kernel
theorem f_420_4344 : ftc (PT 420) 4344 = some (4344, .aload_n 0, 1, 0, 0, 0) := by decide +kernel
theorem f_420_4345 : ftc (PT 420) 4345 = some (4345, .iload 4, 2, 0, 0, 0) := by decide +kernel
theorem f_420_4347 : ftc (PT 420) 4347 = some (4347, .iconst 3, 1, 0, 0, 0) := by decide +kernel
theorem f_420_4348 : ftc (PT 420) 4348 = some (4348, .iadd, 1, 0, 0, 0) := by decide +kernel
theorem f_420_4349 : ftc (PT 420) 4349 = some (4349, .iaload, 1, 0, 0, 0) := by decide +kernel
theorem f_420_4350 : ftc (PT 420) 4350 = some (4350, .aload_n 0, 1, 0, 0, 0) := by decide +kernel
theorem f_420_4351 : ftc (PT 420) 4351 = some (4351, .iload 4, 2, 0, 0, 0) := by decide +kernel
theorem f_420_4353 : ftc (PT 420) 4353 = some (4353, .iconst 4, 1, 0, 0, 0) := by decide +kernel
theorem f_420_4354 : ftc (PT 420) 4354 = some (4354, .iadd, 1, 0, 0, 0) := by decide +kernel
theorem f_420_4355 : ftc (PT 420) 4355 = some (4355, .iaload, 1, 0, 0, 0) := by decide +kernel
theorem f_420_4356 : ftc (PT 420) 4356 = some (4356, .ifCond .eq 7, 3, 4363, 0, 0) := by decide +kernel
theorem f_420_4359 : ftc (PT 420) 4359 = some (4359, .iconst 1, 1, 0, 0, 0) := by decide +kernel
theorem f_420_4360 : ftc (PT 420) 4360 = some (4360, .goto 4, 3, 4364, 0, 0) := by decide +kernel
theorem f_420_4363 : ftc (PT 420) 4363 = some (4363, .iconst 0, 1, 0, 0, 0) := by decide +kernel
theorem f_420_4364 : ftc (PT 420) 4364 = some (4364, .aload_n 0, 1, 0, 0, 0) := by decide +kernel
theorem f_420_4365 : ftc (PT 420) 4365 = some (4365, .iload 4, 2, 0, 0, 0) := by decide +kernel
theorem f_420_4367 : ftc (PT 420) 4367 = some (4367, .iconst 5, 1, 0, 0, 0) := by decide +kernel
theorem f_420_4368 : ftc (PT 420) 4368 = some (4368, .iadd, 1, 0, 0, 0) := by decide +kernel
theorem f_420_4369 : ftc (PT 420) 4369 = some (4369, .iaload, 1, 0, 0, 0) := by decide +kernel
theorem f_420_4370 : ftc (PT 420) 4370 = some (4370, .invokevirtual 353, 3, 308, 13484, 2151) := by decide +kernel
theorem f_420_4373 : ftc (PT 420) 4373 = some (4373, .lstore 6, 2, 0, 0, 0) := by decide +kernel
theorem f_420_4375 : ftc (PT 420) 4375 = some (4375, .aload_n 2, 1, 0, 0, 0) := by decide +kernel
theorem f_420_4376 : ftc (PT 420) 4376 = some (4376, .invokevirtual 202, 3, 212, 1036, 1769) := by decide +kernel
theorem f_420_4379 : ftc (PT 420) 4379 = some (4379, .iload 5, 2, 0, 0, 0) := by decide +kernel
theorem f_420_4381 : ftc (PT 420) 4381 = some (4381, .if_icmp .eq 5, 3, 4386, 0, 0) := by decide +kernel
theorem f_420_4384 : ftc (PT 420) 4384 = some (4384, .iconst 0, 1, 0, 0, 0) := by decide +kernel
theorem f_420_4385 : ftc (PT 420) 4385 = some (4385, .ireturn, 1, 1, 0, 0) := by decide +kernel
theorem f_420_4386 : ftc (PT 420) 4386 = some (4386, .iload 5, 2, 0, 0, 0) := by decide +kernel
theorem f_420_4388 : ftc (PT 420) 4388 = some (4388, .ifCond .ne 14, 3, 4402, 0, 0) := by decide +kernel
theorem f_420_4391 : ftc (PT 420) 4391 = some (4391, .aload_n 3, 1, 0, 0, 0) := by decide +kernel
theorem f_420_4392 : ftc (PT 420) 4392 = some (4392, .iconst 0, 1, 0, 0, 0) := by decide +kernel
theorem f_420_4393 : ftc (PT 420) 4393 = some (4393, .laload, 1, 0, 0, 0) := by decide +kernel
theorem f_420_4394 : ftc (PT 420) 4394 = some (4394, .lload 6, 2, 0, 0, 0) := by decide +kernel
theorem f_420_4396 : ftc (PT 420) 4396 = some (4396, .lcmp, 1, 0, 0, 0) := by decide +kernel
theorem f_420_4397 : ftc (PT 420) 4397 = some (4397, .ifCond .eq 5, 3, 4402, 0, 0) := by decide +kernel
theorem f_420_4400 : ftc (PT 420) 4400 = some (4400, .iconst 0, 1, 0, 0, 0) := by decide +kernel
theorem f_420_4401 : ftc (PT 420) 4401 = some (4401, .ireturn, 1, 1, 0, 0) := by decide +kernel
theorem f_420_4402 : ftc (PT 420) 4402 = some (4402, .goto 515, 3, 4917, 0, 0) := by decide +kernel
theorem f_420_4405 : ftc (PT 420) 4405 = some (4405, .aload_n 1, 1, 0, 0, 0) := by decide +kernel
theorem f_420_4406 : ftc (PT 420) 4406 = some (4406, .aload_n 0, 1, 0, 0, 0) := by decide +kernel
theorem f_420_4407 : ftc (PT 420) 4407 = some (4407, .iload 4, 2, 0, 0, 0) := by decide +kernel
theorem f_420_4409 : ftc (PT 420) 4409 = some (4409, .iconst 1, 1, 0, 0, 0) := by decide +kernel
theorem f_420_4410 : ftc (PT 420) 4410 = some (4410, .iadd, 1, 0, 0, 0) := by decide +kernel
theorem f_420_4411 : ftc (PT 420) 4411 = some (4411, .iaload, 1, 0, 0, 0) := by decide +kernel
theorem f_420_4412 : ftc (PT 420) 4412 = some (4412, .aload_n 0, 1, 0, 0, 0) := by decide +kernel
theorem f_420_4413 : ftc (PT 420) 4413 = some (4413, .iload 4, 2, 0, 0, 0) := by decide +kernel
theorem f_420_4415 : ftc (PT 420) 4415 = some (4415, .iconst 2, 1, 0, 0, 0) := by decide +kernel
theorem f_420_4416 : ftc (PT 420) 4416 = some (4416, .iadd, 1, 0, 0, 0) := by decide +kernel
theorem f_420_4417 : ftc (PT 420) 4417 = some (4417, .iaload, 1, 0, 0, 0) := by decide +kernel
theorem f_420_4418 : ftc (PT 420) 4418 = some (4418, .aload_n 0, 1, 0, 0, 0) := by decide +kernel
theorem f_420_4419 : ftc (PT 420) 4419 = some (4419, .iload 4, 2, 0, 0, 0) := by decide +kernel
theorem f_420_4421 : ftc (PT 420) 4421 = some (4421, .iconst 3, 1, 0, 0, 0) := by decide +kernel
theorem f_420_4422 : ftc (PT 420) 4422 = some (4422, .iadd, 1, 0, 0, 0) := by decide +kernel
theorem f_420_4423 : ftc (PT 420) 4423 = some (4423, .iaload, 1, 0, 0, 0) := by decide +kernel
theorem f_420_4424 : ftc (PT 420) 4424 = some (4424, .aload_n 0, 1, 0, 0, 0) := by decide +kernel
theorem f_420_4425 : ftc (PT 420) 4425 = some (4425, .iload 4, 2, 0, 0, 0) := by decide +kernel
theorem f_420_4427 : ftc (PT 420) 4427 = some (4427, .iconst 4, 1, 0, 0, 0) := by decide +kernel
theorem f_420_4428 : ftc (PT 420) 4428 = some (4428, .iadd, 1, 0, 0, 0) := by decide +kernel
theorem f_420_4429 : ftc (PT 420) 4429 = some (4429, .iaload, 1, 0, 0, 0) := by decide +kernel
theorem f_420_4430 : ftc (PT 420) 4430 = some (4430, .ifCond .eq 7, 3, 4437, 0, 0) := by decide +kernel
theorem f_420_4433 : ftc (PT 420) 4433 = some (4433, .iconst 1, 1, 0, 0, 0) := by decide +kernel
theorem f_420_4434 : ftc (PT 420) 4434 = some (4434, .goto 4, 3, 4438, 0, 0) := by decide +kernel
theorem f_420_4437 : ftc (PT 420) 4437 = some (4437, .iconst 0, 1, 0, 0, 0) := by decide +kernel
theorem f_420_4438 : ftc (PT 420) 4438 = some (4438, .aload_n 0, 1, 0, 0, 0) := by decide +kernel
theorem f_420_4439 : ftc (PT 420) 4439 = some (4439, .iload 4, 2, 0, 0, 0) := by decide +kernel
theorem f_420_4441 : ftc (PT 420) 4441 = some (4441, .iconst 5, 1, 0, 0, 0) := by decide +kernel
theorem f_420_4442 : ftc (PT 420) 4442 = some (4442, .iadd, 1, 0, 0, 0) := by decide +kernel
theorem f_420_4443 : ftc (PT 420) 4443 = some (4443, .iaload, 1, 0, 0, 0) := by decide +kernel
theorem f_420_4444 : ftc (PT 420) 4444 = some (4444, .aload_n 3, 1, 0, 0, 0) := by decide +kernel
theorem f_420_4445 : ftc (PT 420) 4445 = some (4445, .invokestatic 354, 3, 409, 8199, 1540) := by decide +kernel
theorem f_420_4448 : ftc (PT 420) 4448 = some (4448, .istore 5, 2, 0, 0, 0) := by decide +kernel
theorem f_420_4450 : ftc (PT 420) 4450 = some (4450, .aload_n 2, 1, 0, 0, 0) := by decide +kernel
theorem f_420_4451 : ftc (PT 420) 4451 = some (4451, .aload_n 0, 1, 0, 0, 0) := by decide +kernel
theorem f_420_4452 : ftc (PT 420) 4452 = some (4452, .iload 4, 2, 0, 0, 0) := by decide +kernel
theorem f_420_4454 : ftc (PT 420) 4454 = some (4454, .iconst 1, 1, 0, 0, 0) := by decide +kernel
theorem f_420_4455 : ftc (PT 420) 4455 = some (4455, .iadd, 1, 0, 0, 0) := by decide +kernel
theorem f_420_4456 : ftc (PT 420) 4456 = some (4456, .iaload, 1, 0, 0, 0) := by decide +kernel
theorem f_420_4457 : ftc (PT 420) 4457 = some (4457, .aload_n 0, 1, 0, 0, 0) := by decide +kernel
theorem f_420_4458 : ftc (PT 420) 4458 = some (4458, .iload 4, 2, 0, 0, 0) := by decide +kernel
theorem f_420_4460 : ftc (PT 420) 4460 = some (4460, .iconst 2, 1, 0, 0, 0) := by decide +kernel
theorem f_420_4461 : ftc (PT 420) 4461 = some (4461, .iadd, 1, 0, 0, 0) := by decide +kernel
theorem f_420_4462 : ftc (PT 420) 4462 = some (4462, .iaload, 1, 0, 0, 0) := by decide +kernel
theorem f_420_4463 : ftc (PT 420) 4463 = some (4463, .aload_n 0, 1, 0, 0, 0) := by decide +kernel
theorem f_420_4464 : ftc (PT 420) 4464 = some (4464, .iload 4, 2, 0, 0, 0) := by decide +kernel
theorem f_420_4466 : ftc (PT 420) 4466 = some (4466, .iconst 3, 1, 0, 0, 0) := by decide +kernel
theorem f_420_4467 : ftc (PT 420) 4467 = some (4467, .iadd, 1, 0, 0, 0) := by decide +kernel
theorem f_420_4468 : ftc (PT 420) 4468 = some (4468, .iaload, 1, 0, 0, 0) := by decide +kernel
theorem f_420_4469 : ftc (PT 420) 4469 = some (4469, .aload_n 0, 1, 0, 0, 0) := by decide +kernel
theorem f_420_4470 : ftc (PT 420) 4470 = some (4470, .iload 4, 2, 0, 0, 0) := by decide +kernel
theorem f_420_4472 : ftc (PT 420) 4472 = some (4472, .iconst 4, 1, 0, 0, 0) := by decide +kernel
theorem f_420_4473 : ftc (PT 420) 4473 = some (4473, .iadd, 1, 0, 0, 0) := by decide +kernel
theorem f_420_4474 : ftc (PT 420) 4474 = some (4474, .iaload, 1, 0, 0, 0) := by decide +kernel
theorem f_420_4475 : ftc (PT 420) 4475 = some (4475, .ifCond .eq 7, 3, 4482, 0, 0) := by decide +kernel
theorem f_420_4478 : ftc (PT 420) 4478 = some (4478, .iconst 1, 1, 0, 0, 0) := by decide +kernel
theorem f_420_4479 : ftc (PT 420) 4479 = some (4479, .goto 4, 3, 4483, 0, 0) := by decide +kernel
theorem f_420_4482 : ftc (PT 420) 4482 = some (4482, .iconst 0, 1, 0, 0, 0) := by decide +kernel
theorem f_420_4483 : ftc (PT 420) 4483 = some (4483, .aload_n 0, 1, 0, 0, 0) := by decide +kernel
theorem f_420_4484 : ftc (PT 420) 4484 = some (4484, .iload 4, 2, 0, 0, 0) := by decide +kernel
theorem f_420_4486 : ftc (PT 420) 4486 = some (4486, .iconst 5, 1, 0, 0, 0) := by decide +kernel
theorem f_420_4487 : ftc (PT 420) 4487 = some (4487, .iadd, 1, 0, 0, 0) := by decide +kernel
theorem f_420_4488 : ftc (PT 420) 4488 = some (4488, .iaload, 1, 0, 0, 0) := by decide +kernel
theorem f_420_4489 : ftc (PT 420) 4489 = some (4489, .invokevirtual 357, 3, 325, 8364, 2217) := by decide +kernel
theorem f_420_4492 : ftc (PT 420) 4492 = some (4492, .istore 6, 2, 0, 0, 0) := by decide +kernel
theorem f_420_4494 : ftc (PT 420) 4494 = some (4494, .aload_n 2, 1, 0, 0, 0) := by decide +kernel
theorem f_420_4495 : ftc (PT 420) 4495 = some (4495, .invokevirtual 202, 3, 212, 1036, 1769) := by decide +kernel
theorem f_420_4498 : ftc (PT 420) 4498 = some (4498, .iload 5, 2, 0, 0, 0) := by decide +kernel
theorem f_420_4500 : ftc (PT 420) 4500 = some (4500, .if_icmp .eq 5, 3, 4505, 0, 0) := by decide +kernel
theorem f_420_4503 : ftc (PT 420) 4503 = some (4503, .iconst 0, 1, 0, 0, 0) := by decide +kernel
theorem f_420_4504 : ftc (PT 420) 4504 = some (4504, .ireturn, 1, 1, 0, 0) := by decide +kernel
theorem f_420_4505 : ftc (PT 420) 4505 = some (4505, .iload 5, 2, 0, 0, 0) := by decide +kernel
theorem f_420_4507 : ftc (PT 420) 4507 = some (4507, .ifCond .ne 15, 3, 4522, 0, 0) := by decide +kernel
theorem f_420_4510 : ftc (PT 420) 4510 = some (4510, .aload_n 3, 1, 0, 0, 0) := by decide +kernel
theorem f_420_4511 : ftc (PT 420) 4511 = some (4511, .iconst 0, 1, 0, 0, 0) := by decide +kernel
theorem f_420_4512 : ftc (PT 420) 4512 = some (4512, .laload, 1, 0, 0, 0) := by decide +kernel
theorem f_420_4513 : ftc (PT 420) 4513 = some (4513, .iload 6, 2, 0, 0, 0) := by decide +kernel
theorem f_420_4515 : ftc (PT 420) 4515 = some (4515, .i2l, 1, 0, 0, 0) := by decide +kernel
theorem f_420_4516 : ftc (PT 420) 4516 = some (4516, .lcmp, 1, 0, 0, 0) := by decide +kernel
theorem f_420_4517 : ftc (PT 420) 4517 = some (4517, .ifCond .eq 5, 3, 4522, 0, 0) := by decide +kernel
theorem f_420_4520 : ftc (PT 420) 4520 = some (4520, .iconst 0, 1, 0, 0, 0) := by decide +kernel
theorem f_420_4521 : ftc (PT 420) 4521 = some (4521, .ireturn, 1, 1, 0, 0) := by decide +kernel
theorem f_420_4522 : ftc (PT 420) 4522 = some (4522, .goto 395, 3, 4917, 0, 0) := by decide +kernel
theorem f_420_4525 : ftc (PT 420) 4525 = some (4525, .aload_n 1, 1, 0, 0, 0) := by decide +kernel
theorem f_420_4526 : ftc (PT 420) 4526 = some (4526, .aload_n 0, 1, 0, 0, 0) := by decide +kernel
theorem f_420_4527 : ftc (PT 420) 4527 = some (4527, .iload 4, 2, 0, 0, 0) := by decide +kernel
theorem f_420_4529 : ftc (PT 420) 4529 = some (4529, .iconst 1, 1, 0, 0, 0) := by decide +kernel
theorem f_420_4530 : ftc (PT 420) 4530 = some (4530, .iadd, 1, 0, 0, 0) := by decide +kernel
theorem f_420_4531 : ftc (PT 420) 4531 = some (4531, .iaload, 1, 0, 0, 0) := by decide +kernel
theorem f_420_4532 : ftc (PT 420) 4532 = some (4532, .aload_n 0, 1, 0, 0, 0) := by decide +kernel
theorem f_420_4533 : ftc (PT 420) 4533 = some (4533, .iload 4, 2, 0, 0, 0) := by decide +kernel
theorem f_420_4535 : ftc (PT 420) 4535 = some (4535, .iconst 2, 1, 0, 0, 0) := by decide +kernel
theorem f_420_4536 : ftc (PT 420) 4536 = some (4536, .iadd, 1, 0, 0, 0) := by decide +kernel
theorem f_420_4537 : ftc (PT 420) 4537 = some (4537, .iaload, 1, 0, 0, 0) := by decide +kernel
theorem f_420_4538 : ftc (PT 420) 4538 = some (4538, .aload_n 3, 1, 0, 0, 0) := by decide +kernel
theorem f_420_4539 : ftc (PT 420) 4539 = some (4539, .invokestatic 358, 3, 410, 5124, 1551) := by decide +kernel
theorem f_420_4542 : ftc (PT 420) 4542 = some (4542, .istore 5, 2, 0, 0, 0) := by decide +kernel
theorem f_420_4544 : ftc (PT 420) 4544 = some (4544, .aload_n 2, 1, 0, 0, 0) := by decide +kernel
theorem f_420_4545 : ftc (PT 420) 4545 = some (4545, .aload_n 0, 1, 0, 0, 0) := by decide +kernel
theorem f_420_4546 : ftc (PT 420) 4546 = some (4546, .iload 4, 2, 0, 0, 0) := by decide +kernel
theorem f_420_4548 : ftc (PT 420) 4548 = some (4548, .iconst 1, 1, 0, 0, 0) := by decide +kernel
theorem f_420_4549 : ftc (PT 420) 4549 = some (4549, .iadd, 1, 0, 0, 0) := by decide +kernel
theorem f_420_4550 : ftc (PT 420) 4550 = some (4550, .iaload, 1, 0, 0, 0) := by decide +kernel
theorem f_420_4551 : ftc (PT 420) 4551 = some (4551, .aload_n 0, 1, 0, 0, 0) := by decide +kernel
theorem f_420_4552 : ftc (PT 420) 4552 = some (4552, .iload 4, 2, 0, 0, 0) := by decide +kernel
theorem f_420_4554 : ftc (PT 420) 4554 = some (4554, .iconst 2, 1, 0, 0, 0) := by decide +kernel
theorem f_420_4555 : ftc (PT 420) 4555 = some (4555, .iadd, 1, 0, 0, 0) := by decide +kernel
theorem f_420_4556 : ftc (PT 420) 4556 = some (4556, .iaload, 1, 0, 0, 0) := by decide +kernel
theorem f_420_4557 : ftc (PT 420) 4557 = some (4557, .invokevirtual 360, 3, 326, 4172, 2221) := by decide +kernel
theorem f_420_4560 : ftc (PT 420) 4560 = some (4560, .istore 6, 2, 0, 0, 0) := by decide +kernel
theorem f_420_4562 : ftc (PT 420) 4562 = some (4562, .aload_n 2, 1, 0, 0, 0) := by decide +kernel
theorem f_420_4563 : ftc (PT 420) 4563 = some (4563, .invokevirtual 202, 3, 212, 1036, 1769) := by decide +kernel
theorem f_420_4566 : ftc (PT 420) 4566 = some (4566, .iload 5, 2, 0, 0, 0) := by decide +kernel
theorem f_420_4568 : ftc (PT 420) 4568 = some (4568, .if_icmp .eq 5, 3, 4573, 0, 0) := by decide +kernel
theorem f_420_4571 : ftc (PT 420) 4571 = some (4571, .iconst 0, 1, 0, 0, 0) := by decide +kernel
theorem f_420_4572 : ftc (PT 420) 4572 = some (4572, .ireturn, 1, 1, 0, 0) := by decide +kernel
theorem f_420_4573 : ftc (PT 420) 4573 = some (4573, .iload 5, 2, 0, 0, 0) := by decide +kernel
theorem f_420_4575 : ftc (PT 420) 4575 = some (4575, .ifCond .ne 15, 3, 4590, 0, 0) := by decide +kernel
theorem f_420_4578 : ftc (PT 420) 4578 = some (4578, .aload_n 3, 1, 0, 0, 0) := by decide +kernel
theorem f_420_4579 : ftc (PT 420) 4579 = some (4579, .iconst 0, 1, 0, 0, 0) := by decide +kernel
theorem f_420_4580 : ftc (PT 420) 4580 = some (4580, .laload, 1, 0, 0, 0) := by decide +kernel
theorem f_420_4581 : ftc (PT 420) 4581 = some (4581, .iload 6, 2, 0, 0, 0) := by decide +kernel
theorem f_420_4583 : ftc (PT 420) 4583 = some (4583, .i2l, 1, 0, 0, 0) := by decide +kernel
theorem f_420_4584 : ftc (PT 420) 4584 = some (4584, .lcmp, 1, 0, 0, 0) := by decide +kernel
theorem f_420_4585 : ftc (PT 420) 4585 = some (4585, .ifCond .eq 5, 3, 4590, 0, 0) := by decide +kernel
theorem f_420_4588 : ftc (PT 420) 4588 = some (4588, .iconst 0, 1, 0, 0, 0) := by decide +kernel
theorem f_420_4589 : ftc (PT 420) 4589 = some (4589, .ireturn, 1, 1, 0, 0) := by decide +kernel
theorem f_420_4590 : ftc (PT 420) 4590 = some (4590, .goto 327, 3, 4917, 0, 0) := by decide +kernel
theorem f_420_4593 : ftc (PT 420) 4593 = some (4593, .aload_n 1, 1, 0, 0, 0) := by decide +kernel
theorem f_420_4594 : ftc (PT 420) 4594 = some (4594, .aload_n 0, 1, 0, 0, 0) := by decide +kernel
theorem f_420_4595 : ftc (PT 420) 4595 = some (4595, .iload 4, 2, 0, 0, 0) := by decide +kernel
theorem f_420_4597 : ftc (PT 420) 4597 = some (4597, .iconst 1, 1, 0, 0, 0) := by decide +kernel
theorem f_420_4598 : ftc (PT 420) 4598 = some (4598, .iadd, 1, 0, 0, 0) := by decide +kernel
theorem f_420_4599 : ftc (PT 420) 4599 = some (4599, .iaload, 1, 0, 0, 0) := by decide +kernel
theorem f_420_4600 : ftc (PT 420) 4600 = some (4600, .invokevirtual 361, 3, 88, 2091, 526) := by decide +kernel
theorem f_420_4603 : ftc (PT 420) 4603 = some (4603, .aload_n 2, 1, 0, 0, 0) := by decide +kernel
theorem f_420_4604 : ftc (PT 420) 4604 = some (4604, .aload_n 0, 1, 0, 0, 0) := by decide +kernel
theorem f_420_4605 : ftc (PT 420) 4605 = some (4605, .iload 4, 2, 0, 0, 0) := by decide +kernel
theorem f_420_4607 : ftc (PT 420) 4607 = some (4607, .iconst 1, 1, 0, 0, 0) := by decide +kernel
theorem f_420_4608 : ftc (PT 420) 4608 = some (4608, .iadd, 1, 0, 0, 0) := by decide +kernel
theorem f_420_4609 : ftc (PT 420) 4609 = some (4609, .iaload, 1, 0, 0, 0) := by decide +kernel
theorem f_420_4610 : ftc (PT 420) 4610 = some (4610, .invokevirtual 364, 3, 328, 2092, 2229) := by decide +kernel
theorem f_420_4613 : ftc (PT 420) 4613 = some (4613, .if_icmp .eq 304, 3, 4917, 0, 0) := by decide +kernel
theorem f_420_4616 : ftc (PT 420) 4616 = some (4616, .iconst 0, 1, 0, 0, 0) := by decide +kernel
theorem f_420_4617 : ftc (PT 420) 4617 = some (4617, .ireturn, 1, 1, 0, 0) := by decide +kernel
theorem f_420_4618 : ftc (PT 420) 4618 = some (4618, .aload_n 1, 1, 0, 0, 0) := by decide +kernel
theorem f_420_4619 : ftc (PT 420) 4619 = some (4619, .invokevirtual 365, 3, 93, 2059, 607) := by decide +kernel
theorem f_420_4622 : ftc (PT 420) 4622 = some (4622, .aload_n 2, 1, 0, 0, 0) := by decide +kernel
theorem f_420_4623 : ftc (PT 420) 4623 = some (4623, .invokevirtual 368, 3, 332, 3084, 2244) := by decide +kernel
theorem f_420_4626 : ftc (PT 420) 4626 = some (4626, .if_icmp .eq 291, 3, 4917, 0, 0) := by decide +kernel
theorem f_420_4629 : ftc (PT 420) 4629 = some (4629, .iconst 0, 1, 0, 0, 0) := by decide +kernel
theorem f_420_4630 : ftc (PT 420) 4630 = some (4630, .ireturn, 1, 1, 0, 0) := by decide +kernel
theorem f_420_4631 : ftc (PT 420) 4631 = some (4631, .aload_n 1, 1, 0, 0, 0) := by decide +kernel
theorem f_420_4632 : ftc (PT 420) 4632 = some (4632, .aload_n 0, 1, 0, 0, 0) := by decide +kernel
theorem f_420_4633 : ftc (PT 420) 4633 = some (4633, .iload 4, 2, 0, 0, 0) := by decide +kernel
theorem f_420_4635 : ftc (PT 420) 4635 = some (4635, .iconst 1, 1, 0, 0, 0) := by decide +kernel
theorem f_420_4636 : ftc (PT 420) 4636 = some (4636, .iadd, 1, 0, 0, 0) := by decide +kernel
theorem f_420_4637 : ftc (PT 420) 4637 = some (4637, .iaload, 1, 0, 0, 0) := by decide +kernel
theorem f_420_4638 : ftc (PT 420) 4638 = some (4638, .aload_n 3, 1, 0, 0, 0) := by decide +kernel
theorem f_420_4639 : ftc (PT 420) 4639 = some (4639, .invokestatic 369, 3, 411, 4099, 1566) := by decide +kernel
theorem f_420_4642 : ftc (PT 420) 4642 = some (4642, .istore 5, 2, 0, 0, 0) := by decide +kernel
theorem f_420_4644 : ftc (PT 420) 4644 = some (4644, .aload_n 2, 1, 0, 0, 0) := by decide +kernel
theorem f_420_4645 : ftc (PT 420) 4645 = some (4645, .aload_n 0, 1, 0, 0, 0) := by decide +kernel
theorem f_420_4646 : ftc (PT 420) 4646 = some (4646, .iload 4, 2, 0, 0, 0) := by decide +kernel
theorem f_420_4648 : ftc (PT 420) 4648 = some (4648, .iconst 1, 1, 0, 0, 0) := by decide +kernel
theorem f_420_4649 : ftc (PT 420) 4649 = some (4649, .iadd, 1, 0, 0, 0) := by decide +kernel
theorem f_420_4650 : ftc (PT 420) 4650 = some (4650, .iaload, 1, 0, 0, 0) := by decide +kernel
theorem f_420_4651 : ftc (PT 420) 4651 = some (4651, .invokevirtual 371, 3, 333, 10284, 2248) := by decide +kernel
theorem f_420_4654 : ftc (PT 420) 4654 = some (4654, .istore 6, 2, 0, 0, 0) := by decide +kernel
theorem f_420_4656 : ftc (PT 420) 4656 = some (4656, .aload_n 2, 1, 0, 0, 0) := by decide +kernel
theorem f_420_4657 : ftc (PT 420) 4657 = some (4657, .invokevirtual 202, 3, 212, 1036, 1769) := by decide +kernel
theorem f_420_4660 : ftc (PT 420) 4660 = some (4660, .iload 5, 2, 0, 0, 0) := by decide +kernel
theorem f_420_4662 : ftc (PT 420) 4662 = some (4662, .if_icmp .eq 5, 3, 4667, 0, 0) := by decide +kernel
theorem f_420_4665 : ftc (PT 420) 4665 = some (4665, .iconst 0, 1, 0, 0, 0) := by decide +kernel
theorem f_420_4666 : ftc (PT 420) 4666 = some (4666, .ireturn, 1, 1, 0, 0) := by decide +kernel
theorem f_420_4667 : ftc (PT 420) 4667 = some (4667, .iload 5, 2, 0, 0, 0) := by decide +kernel
theorem f_420_4669 : ftc (PT 420) 4669 = some (4669, .ifCond .ne 15, 3, 4684, 0, 0) := by decide +kernel
theorem f_420_4672 : ftc (PT 420) 4672 = some (4672, .aload_n 3, 1, 0, 0, 0) := by decide +kernel
theorem f_420_4673 : ftc (PT 420) 4673 = some (4673, .iconst 0, 1, 0, 0, 0) := by decide +kernel
theorem f_420_4674 : ftc (PT 420) 4674 = some (4674, .laload, 1, 0, 0, 0) := by decide +kernel
theorem f_420_4675 : ftc (PT 420) 4675 = some (4675, .iload 6, 2, 0, 0, 0) := by decide +kernel
theorem f_420_4677 : ftc (PT 420) 4677 = some (4677, .i2l, 1, 0, 0, 0) := by decide +kernel
theorem f_420_4678 : ftc (PT 420) 4678 = some (4678, .lcmp, 1, 0, 0, 0) := by decide +kernel
theorem f_420_4679 : ftc (PT 420) 4679 = some (4679, .ifCond .eq 5, 3, 4684, 0, 0) := by decide +kernel
theorem f_420_4682 : ftc (PT 420) 4682 = some (4682, .iconst 0, 1, 0, 0, 0) := by decide +kernel
theorem f_420_4683 : ftc (PT 420) 4683 = some (4683, .ireturn, 1, 1, 0, 0) := by decide +kernel
theorem f_420_4684 : ftc (PT 420) 4684 = some (4684, .goto 233, 3, 4917, 0, 0) := by decide +kernel
theorem f_420_4687 : ftc (PT 420) 4687 = some (4687, .aload_n 1, 1, 0, 0, 0) := by decide +kernel
theorem f_420_4688 : ftc (PT 420) 4688 = some (4688, .invokevirtual 372, 3, 94, 1035, 635) := by decide +kernel
theorem f_420_4691 : ftc (PT 420) 4691 = some (4691, .aload_n 2, 1, 0, 0, 0) := by decide +kernel
theorem f_420_4692 : ftc (PT 420) 4692 = some (4692, .invokevirtual 375, 3, 350, 1036, 2320) := by decide +kernel
theorem f_420_4695 : ftc (PT 420) 4695 = some (4695, .if_icmp .eq 222, 3, 4917, 0, 0) := by decide +kernel
theorem f_420_4698 : ftc (PT 420) 4698 = some (4698, .iconst 0, 1, 0, 0, 0) := by decide +kernel
theorem f_420_4699 : ftc (PT 420) 4699 = some (4699, .ireturn, 1, 1, 0, 0) := by decide +kernel
theorem f_420_4700 : ftc (PT 420) 4700 = some (4700, .aload_n 1, 1, 0, 0, 0) := by decide +kernel
theorem f_420_4701 : ftc (PT 420) 4701 = some (4701, .aload_n 0, 1, 0, 0, 0) := by decide +kernel
theorem f_420_4702 : ftc (PT 420) 4702 = some (4702, .iload 4, 2, 0, 0, 0) := by decide +kernel
theorem f_420_4704 : ftc (PT 420) 4704 = some (4704, .iconst 1, 1, 0, 0, 0) := by decide +kernel
theorem f_420_4705 : ftc (PT 420) 4705 = some (4705, .iadd, 1, 0, 0, 0) := by decide +kernel
theorem f_420_4706 : ftc (PT 420) 4706 = some (4706, .iaload, 1, 0, 0, 0) := by decide +kernel
theorem f_420_4707 : ftc (PT 420) 4707 = some (4707, .aload_n 3, 1, 0, 0, 0) := by decide +kernel
theorem f_420_4708 : ftc (PT 420) 4708 = some (4708, .invokestatic 376, 3, 412, 4099, 1586) := by decide +kernel
theorem f_420_4711 : ftc (PT 420) 4711 = some (4711, .istore 5, 2, 0, 0, 0) := by decide +kernel
theorem f_420_4713 : ftc (PT 420) 4713 = some (4713, .aload_n 2, 1, 0, 0, 0) := by decide +kernel
theorem f_420_4714 : ftc (PT 420) 4714 = some (4714, .aload_n 0, 1, 0, 0, 0) := by decide +kernel
theorem f_420_4715 : ftc (PT 420) 4715 = some (4715, .iload 4, 2, 0, 0, 0) := by decide +kernel
theorem f_420_4717 : ftc (PT 420) 4717 = some (4717, .iconst 1, 1, 0, 0, 0) := by decide +kernel
theorem f_420_4718 : ftc (PT 420) 4718 = some (4718, .iadd, 1, 0, 0, 0) := by decide +kernel
theorem f_420_4719 : ftc (PT 420) 4719 = some (4719, .iaload, 1, 0, 0, 0) := by decide +kernel
theorem f_420_4720 : ftc (PT 420) 4720 = some (4720, .invokevirtual 378, 3, 352, 2092, 2328) := by decide +kernel
theorem f_420_4723 : ftc (PT 420) 4723 = some (4723, .lstore 6, 2, 0, 0, 0) := by decide +kernel
theorem f_420_4725 : ftc (PT 420) 4725 = some (4725, .aload_n 2, 1, 0, 0, 0) := by decide +kernel
theorem f_420_4726 : ftc (PT 420) 4726 = some (4726, .invokevirtual 202, 3, 212, 1036, 1769) := by decide +kernel
theorem f_420_4729 : ftc (PT 420) 4729 = some (4729, .iload 5, 2, 0, 0, 0) := by decide +kernel
theorem f_420_4731 : ftc (PT 420) 4731 = some (4731, .if_icmp .eq 5, 3, 4736, 0, 0) := by decide +kernel
theorem f_420_4734 : ftc (PT 420) 4734 = some (4734, .iconst 0, 1, 0, 0, 0) := by decide +kernel
theorem f_420_4735 : ftc (PT 420) 4735 = some (4735, .ireturn, 1, 1, 0, 0) := by decide +kernel
theorem f_420_4736 : ftc (PT 420) 4736 = some (4736, .iload 5, 2, 0, 0, 0) := by decide +kernel
theorem f_420_4738 : ftc (PT 420) 4738 = some (4738, .ifCond .ne 14, 3, 4752, 0, 0) := by decide +kernel
theorem f_420_4741 : ftc (PT 420) 4741 = some (4741, .aload_n 3, 1, 0, 0, 0) := by decide +kernel
theorem f_420_4742 : ftc (PT 420) 4742 = some (4742, .iconst 0, 1, 0, 0, 0) := by decide +kernel
theorem f_420_4743 : ftc (PT 420) 4743 = some (4743, .laload, 1, 0, 0, 0) := by decide +kernel
theorem f_420_4744 : ftc (PT 420) 4744 = some (4744, .lload 6, 2, 0, 0, 0) := by decide +kernel
theorem f_420_4746 : ftc (PT 420) 4746 = some (4746, .lcmp, 1, 0, 0, 0) := by decide +kernel
theorem f_420_4747 : ftc (PT 420) 4747 = some (4747, .ifCond .eq 5, 3, 4752, 0, 0) := by decide +kernel
theorem f_420_4750 : ftc (PT 420) 4750 = some (4750, .iconst 0, 1, 0, 0, 0) := by decide +kernel
theorem f_420_4751 : ftc (PT 420) 4751 = some (4751, .ireturn, 1, 1, 0, 0) := by decide +kernel
theorem f_420_4752 : ftc (PT 420) 4752 = some (4752, .goto 165, 3, 4917, 0, 0) := by decide +kernel
theorem f_420_4755 : ftc (PT 420) 4755 = some (4755, .aload_n 1, 1, 0, 0, 0) := by decide +kernel
theorem f_420_4756 : ftc (PT 420) 4756 = some (4756, .aload_n 0, 1, 0, 0, 0) := by decide +kernel
theorem f_420_4757 : ftc (PT 420) 4757 = some (4757, .iload 4, 2, 0, 0, 0) := by decide +kernel
theorem f_420_4759 : ftc (PT 420) 4759 = some (4759, .iconst 1, 1, 0, 0, 0) := by decide +kernel
theorem f_420_4760 : ftc (PT 420) 4760 = some (4760, .iadd, 1, 0, 0, 0) := by decide +kernel
theorem f_420_4761 : ftc (PT 420) 4761 = some (4761, .iaload, 1, 0, 0, 0) := by decide +kernel
theorem f_420_4762 : ftc (PT 420) 4762 = some (4762, .aload_n 3, 1, 0, 0, 0) := by decide +kernel
theorem f_420_4763 : ftc (PT 420) 4763 = some (4763, .invokestatic 379, 3, 413, 4099, 1593) := by decide +kernel
theorem f_420_4766 : ftc (PT 420) 4766 = some (4766, .istore 5, 2, 0, 0, 0) := by decide +kernel
theorem f_420_4768 : ftc (PT 420) 4768 = some (4768, .aload_n 2, 1, 0, 0, 0) := by decide +kernel
theorem f_420_4769 : ftc (PT 420) 4769 = some (4769, .aload_n 0, 1, 0, 0, 0) := by decide +kernel
theorem f_420_4770 : ftc (PT 420) 4770 = some (4770, .iload 4, 2, 0, 0, 0) := by decide +kernel
theorem f_420_4772 : ftc (PT 420) 4772 = some (4772, .iconst 1, 1, 0, 0, 0) := by decide +kernel
theorem f_420_4773 : ftc (PT 420) 4773 = some (4773, .iadd, 1, 0, 0, 0) := by decide +kernel
theorem f_420_4774 : ftc (PT 420) 4774 = some (4774, .iaload, 1, 0, 0, 0) := by decide +kernel
theorem f_420_4775 : ftc (PT 420) 4775 = some (4775, .invokevirtual 381, 3, 354, 3116, 2336) := by decide +kernel
theorem f_420_4778 : ftc (PT 420) 4778 = some (4778, .istore 6, 2, 0, 0, 0) := by decide +kernel
theorem f_420_4780 : ftc (PT 420) 4780 = some (4780, .aload_n 2, 1, 0, 0, 0) := by decide +kernel
theorem f_420_4781 : ftc (PT 420) 4781 = some (4781, .invokevirtual 202, 3, 212, 1036, 1769) := by decide +kernel
theorem f_420_4784 : ftc (PT 420) 4784 = some (4784, .iload 5, 2, 0, 0, 0) := by decide +kernel
theorem f_420_4786 : ftc (PT 420) 4786 = some (4786, .if_icmp .eq 5, 3, 4791, 0, 0) := by decide +kernel
theorem f_420_4789 : ftc (PT 420) 4789 = some (4789, .iconst 0, 1, 0, 0, 0) := by decide +kernel
theorem f_420_4790 : ftc (PT 420) 4790 = some (4790, .ireturn, 1, 1, 0, 0) := by decide +kernel
theorem f_420_4791 : ftc (PT 420) 4791 = some (4791, .iload 5, 2, 0, 0, 0) := by decide +kernel
theorem f_420_4793 : ftc (PT 420) 4793 = some (4793, .ifCond .ne 15, 3, 4808, 0, 0) := by decide +kernel
theorem f_420_4796 : ftc (PT 420) 4796 = some (4796, .aload_n 3, 1, 0, 0, 0) := by decide +kernel
theorem f_420_4797 : ftc (PT 420) 4797 = some (4797, .iconst 0, 1, 0, 0, 0) := by decide +kernel
theorem f_420_4798 : ftc (PT 420) 4798 = some (4798, .laload, 1, 0, 0, 0) := by decide +kernel
theorem f_420_4799 : ftc (PT 420) 4799 = some (4799, .iload 6, 2, 0, 0, 0) := by decide +kernel
theorem f_420_4801 : ftc (PT 420) 4801 = some (4801, .i2l, 1, 0, 0, 0) := by decide +kernel
theorem f_420_4802 : ftc (PT 420) 4802 = some (4802, .lcmp, 1, 0, 0, 0) := by decide +kernel
theorem f_420_4803 : ftc (PT 420) 4803 = some (4803, .ifCond .eq 5, 3, 4808, 0, 0) := by decide +kernel
theorem f_420_4806 : ftc (PT 420) 4806 = some (4806, .iconst 0, 1, 0, 0, 0) := by decide +kernel
theorem f_420_4807 : ftc (PT 420) 4807 = some (4807, .ireturn, 1, 1, 0, 0) := by decide +kernel
theorem f_420_4808 : ftc (PT 420) 4808 = some (4808, .goto 109, 3, 4917, 0, 0) := by decide +kernel
theorem f_420_4811 : ftc (PT 420) 4811 = some (4811, .aload_n 1, 1, 0, 0, 0) := by decide +kernel
theorem f_420_4812 : ftc (PT 420) 4812 = some (4812, .aload_n 0, 1, 0, 0, 0) := by decide +kernel
theorem f_420_4813 : ftc (PT 420) 4813 = some (4813, .iload 4, 2, 0, 0, 0) := by decide +kernel
theorem f_420_4815 : ftc (PT 420) 4815 = some (4815, .iconst 1, 1, 0, 0, 0) := by decide +kernel
theorem f_420_4816 : ftc (PT 420) 4816 = some (4816, .iadd, 1, 0, 0, 0) := by decide +kernel
theorem f_420_4817 : ftc (PT 420) 4817 = some (4817, .iaload, 1, 0, 0, 0) := by decide +kernel
theorem f_420_4818 : ftc (PT 420) 4818 = some (4818, .aload_n 3, 1, 0, 0, 0) := by decide +kernel
theorem f_420_4819 : ftc (PT 420) 4819 = some (4819, .invokestatic 382, 3, 414, 4099, 1604) := by decide +kernel
theorem f_420_4822 : ftc (PT 420) 4822 = some (4822, .istore 5, 2, 0, 0, 0) := by decide +kernel
theorem f_420_4824 : ftc (PT 420) 4824 = some (4824, .aload_n 2, 1, 0, 0, 0) := by decide +kernel
theorem f_420_4825 : ftc (PT 420) 4825 = some (4825, .aload_n 0, 1, 0, 0, 0) := by decide +kernel
theorem f_420_4826 : ftc (PT 420) 4826 = some (4826, .iload 4, 2, 0, 0, 0) := by decide +kernel
theorem f_420_4828 : ftc (PT 420) 4828 = some (4828, .iconst 1, 1, 0, 0, 0) := by decide +kernel
theorem f_420_4829 : ftc (PT 420) 4829 = some (4829, .iadd, 1, 0, 0, 0) := by decide +kernel
theorem f_420_4830 : ftc (PT 420) 4830 = some (4830, .iaload, 1, 0, 0, 0) := by decide +kernel
theorem f_420_4831 : ftc (PT 420) 4831 = some (4831, .invokevirtual 384, 3, 356, 2092, 2343) := by decide +kernel
theorem f_420_4834 : ftc (PT 420) 4834 = some (4834, .istore 6, 2, 0, 0, 0) := by decide +kernel
theorem f_420_4836 : ftc (PT 420) 4836 = some (4836, .aload_n 2, 1, 0, 0, 0) := by decide +kernel
theorem f_420_4837 : ftc (PT 420) 4837 = some (4837, .invokevirtual 202, 3, 212, 1036, 1769) := by decide +kernel
theorem f_420_4840 : ftc (PT 420) 4840 = some (4840, .iload 5, 2, 0, 0, 0) := by decide +kernel
theorem f_420_4842 : ftc (PT 420) 4842 = some (4842, .if_icmp .eq 5, 3, 4847, 0, 0) := by decide +kernel
theorem f_420_4845 : ftc (PT 420) 4845 = some (4845, .iconst 0, 1, 0, 0, 0) := by decide +kernel
theorem f_420_4846 : ftc (PT 420) 4846 = some (4846, .ireturn, 1, 1, 0, 0) := by decide +kernel
theorem f_420_4847 : ftc (PT 420) 4847 = some (4847, .iload 5, 2, 0, 0, 0) := by decide +kernel
theorem f_420_4849 : ftc (PT 420) 4849 = some (4849, .ifCond .ne 15, 3, 4864, 0, 0) := by decide +kernel
theorem f_420_4852 : ftc (PT 420) 4852 = some (4852, .aload_n 3, 1, 0, 0, 0) := by decide +kernel
theorem f_420_4853 : ftc (PT 420) 4853 = some (4853, .iconst 0, 1, 0, 0, 0) := by decide +kernel
theorem f_420_4854 : ftc (PT 420) 4854 = some (4854, .laload, 1, 0, 0, 0) := by decide +kernel
theorem f_420_4855 : ftc (PT 420) 4855 = some (4855, .iload 6, 2, 0, 0, 0) := by decide +kernel
theorem f_420_4857 : ftc (PT 420) 4857 = some (4857, .i2l, 1, 0, 0, 0) := by decide +kernel
theorem f_420_4858 : ftc (PT 420) 4858 = some (4858, .lcmp, 1, 0, 0, 0) := by decide +kernel
theorem f_420_4859 : ftc (PT 420) 4859 = some (4859, .ifCond .eq 5, 3, 4864, 0, 0) := by decide +kernel
theorem f_420_4862 : ftc (PT 420) 4862 = some (4862, .iconst 0, 1, 0, 0, 0) := by decide +kernel
theorem f_420_4863 : ftc (PT 420) 4863 = some (4863, .ireturn, 1, 1, 0, 0) := by decide +kernel
theorem f_420_4864 : ftc (PT 420) 4864 = some (4864, .goto 53, 3, 4917, 0, 0) := by decide +kernel
theorem f_420_4867 : ftc (PT 420) 4867 = some (4867, .aload_n 1, 1, 0, 0, 0) := by decide +kernel
theorem f_420_4868 : ftc (PT 420) 4868 = some (4868, .aload_n 0, 1, 0, 0, 0) := by decide +kernel
theorem f_420_4869 : ftc (PT 420) 4869 = some (4869, .iload 4, 2, 0, 0, 0) := by decide +kernel
theorem f_420_4871 : ftc (PT 420) 4871 = some (4871, .iconst 1, 1, 0, 0, 0) := by decide +kernel
theorem f_420_4872 : ftc (PT 420) 4872 = some (4872, .iadd, 1, 0, 0, 0) := by decide +kernel
theorem f_420_4873 : ftc (PT 420) 4873 = some (4873, .iaload, 1, 0, 0, 0) := by decide +kernel
theorem f_420_4874 : ftc (PT 420) 4874 = some (4874, .invokevirtual 385, 3, 100, 3115, 689) := by decide +kernel
theorem f_420_4877 : ftc (PT 420) 4877 = some (4877, .aload_n 2, 1, 0, 0, 0) := by decide +kernel
theorem f_420_4878 : ftc (PT 420) 4878 = some (4878, .aload_n 0, 1, 0, 0, 0) := by decide +kernel
theorem f_420_4879 : ftc (PT 420) 4879 = some (4879, .iload 4, 2, 0, 0, 0) := by decide +kernel
theorem f_420_4881 : ftc (PT 420) 4881 = some (4881, .iconst 1, 1, 0, 0, 0) := by decide +kernel
theorem f_420_4882 : ftc (PT 420) 4882 = some (4882, .iadd, 1, 0, 0, 0) := by decide +kernel
theorem f_420_4883 : ftc (PT 420) 4883 = some (4883, .iaload, 1, 0, 0, 0) := by decide +kernel
theorem f_420_4884 : ftc (PT 420) 4884 = some (4884, .invokevirtual 388, 3, 359, 5164, 2355) := by decide +kernel
theorem f_420_4887 : ftc (PT 420) 4887 = some (4887, .if_icmp .eq 30, 3, 4917, 0, 0) := by decide +kernel
theorem f_420_4890 : ftc (PT 420) 4890 = some (4890, .iconst 0, 1, 0, 0, 0) := by decide +kernel
theorem f_420_4891 : ftc (PT 420) 4891 = some (4891, .ireturn, 1, 1, 0, 0) := by decide +kernel
theorem f_420_4892 : ftc (PT 420) 4892 = some (4892, .aload_n 1, 1, 0, 0, 0) := by decide +kernel
theorem f_420_4893 : ftc (PT 420) 4893 = some (4893, .aload_n 0, 1, 0, 0, 0) := by decide +kernel
theorem f_420_4894 : ftc (PT 420) 4894 = some (4894, .iload 4, 2, 0, 0, 0) := by decide +kernel
theorem f_420_4896 : ftc (PT 420) 4896 = some (4896, .iconst 1, 1, 0, 0, 0) := by decide +kernel
theorem f_420_4897 : ftc (PT 420) 4897 = some (4897, .iadd, 1, 0, 0, 0) := by decide +kernel
theorem f_420_4898 : ftc (PT 420) 4898 = some (4898, .iaload, 1, 0, 0, 0) := by decide +kernel
theorem f_420_4899 : ftc (PT 420) 4899 = some (4899, .invokevirtual 389, 3, 103, 2091, 730) := by decide +kernel
theorem f_420_4902 : ftc (PT 420) 4902 = some (4902, .aload_n 2, 1, 0, 0, 0) := by decide +kernel
theorem f_420_4903 : ftc (PT 420) 4903 = some (4903, .aload_n 0, 1, 0, 0, 0) := by decide +kernel
theorem f_420_4904 : ftc (PT 420) 4904 = some (4904, .iload 4, 2, 0, 0, 0) := by decide +kernel
theorem f_420_4906 : ftc (PT 420) 4906 = some (4906, .iconst 1, 1, 0, 0, 0) := by decide +kernel
theorem f_420_4907 : ftc (PT 420) 4907 = some (4907, .iadd, 1, 0, 0, 0) := by decide +kernel
theorem f_420_4908 : ftc (PT 420) 4908 = some (4908, .iaload, 1, 0, 0, 0) := by decide +kernel
theorem f_420_4909 : ftc (PT 420) 4909 = some (4909, .invokevirtual 392, 3, 362, 2092, 2367) := by decide +kernel
theorem f_420_4912 : ftc (PT 420) 4912 = some (4912, .if_icmp .eq 5, 3, 4917, 0, 0) := by decide +kernel
theorem f_420_4915 : ftc (PT 420) 4915 = some (4915, .iconst 0, 1, 0, 0, 0) := by decide +kernel
theorem f_420_4916 : ftc (PT 420) 4916 = some (4916, .ireturn, 1, 1, 0, 0) := by decide +kernel
theorem f_420_4917 : ftc (PT 420) 4917 = some (4917, .iinc 4 10, 3, 0, 0, 0) := by decide +kernel
theorem f_420_4920 : ftc (PT 420) 4920 = some (4920, .goto (-4897), 3, 23, 0, 0) := by decide +kernel
set_option maxRecDepth 10000 in
set_option maxHeartbeats 4000000 in
theorem s_420_4150 {Lx : Nat} {I : Mi} {L : Ml} {e : Nat} {Q : Kq} {x4 : Int32} (h :
    (inb (x4 + (Int32.ofInt 1)) Lx (
     (inb (x4 + (Int32.ofInt 2)) Lx (
      (if (I 0 ((x4 + (Int32.ofInt 2)).toNatClampNeg)) = 0 then
       (inb (x4 + (Int32.ofInt 3)) Lx (
        (inb (x4 + (Int32.ofInt 4)) Lx (
         (inb (x4 + (Int32.ofInt 5)) Lx (
          Wp 407 0 [(0, .ref 1), (1, .int (I 0 ((x4 + (Int32.ofInt 1)).toNatClampNeg))), (2, .int (Int32.ofInt 0)), (3, .int (I 0 ((x4 + (Int32.ofInt 3)).toNatClampNeg))), (4, .int (I 0 ((x4 + (Int32.ofInt 4)).toNatClampNeg))), (5, .int (I 0 ((x4 + (Int32.ofInt 5)).toNatClampNeg))), (6, .ref 70)] [] (gE Lx) I L e (kcp (Wp 420) 420 4190 0 [(0, .ref 0), (1, .ref 1), (2, .ref 58), (3, .ref 70), (4, .int x4)] 71 [] Q))
         False))
        False))
       False)
      else
       (inb (x4 + (Int32.ofInt 3)) Lx (
        (inb (x4 + (Int32.ofInt 4)) Lx (
         (inb (x4 + (Int32.ofInt 5)) Lx (
          Wp 407 0 [(0, .ref 1), (1, .int (I 0 ((x4 + (Int32.ofInt 1)).toNatClampNeg))), (2, .int (Int32.ofInt 1)), (3, .int (I 0 ((x4 + (Int32.ofInt 3)).toNatClampNeg))), (4, .int (I 0 ((x4 + (Int32.ofInt 4)).toNatClampNeg))), (5, .int (I 0 ((x4 + (Int32.ofInt 5)).toNatClampNeg))), (6, .ref 70)] [] (gE Lx) I L e (kcp (Wp 420) 420 4190 0 [(0, .ref 0), (1, .ref 1), (2, .ref 58), (3, .ref 70), (4, .int x4)] 71 [] Q))
         False))
        False))
       False)))
     False))
    False)) :
    Wp 420 4150 [(0, .ref 0), (1, .ref 1), (2, .ref 58), (3, .ref 70), (4, .int x4)] [] (gE Lx) I L e Q := by
  refine w_a f_420_4150 ?_
  refine w_a f_420_4151 ?_
  refine w_a f_420_4152 ?_
  refine w_a f_420_4154 ?_
  refine w_a f_420_4155 ?_
  refine w_a f_420_4156 ?_
  refine n_m (fun h => ?_) h
  refine w_a f_420_4157 ?_
  refine w_a f_420_4158 ?_
  refine w_a f_420_4160 ?_
  refine w_a f_420_4161 ?_
  refine w_a f_420_4162 ?_
  refine n_m (fun h => ?_) h
  refine w_a f_420_4163 ?_
  refine i_m (fun h => ?_) (fun h => ?_) h
  · refine w_a f_420_4170 ?_
    refine w_a f_420_4171 ?_
    refine w_a f_420_4172 ?_
    refine w_a f_420_4174 ?_
    refine w_a f_420_4175 ?_
    refine w_a f_420_4176 ?_
    refine n_m (fun h => ?_) h
    refine w_a f_420_4177 ?_
    refine w_a f_420_4178 ?_
    refine w_a f_420_4180 ?_
    refine w_a f_420_4181 ?_
    refine w_a f_420_4182 ?_
    refine n_m (fun h => ?_) h
    refine w_a f_420_4183 ?_
    refine w_a f_420_4184 ?_
    refine w_a f_420_4186 ?_
    refine w_a f_420_4187 ?_
    refine w_a f_420_4188 ?_
    refine n_m (fun h => ?_) h
    refine w_a f_420_4189 ?_
    exact w_c (ks := [0, 1, 2, 3, 4]) f_420_4190 rfl rfl h
  · refine w_a f_420_4166 ?_
    refine w_a f_420_4167 ?_
    refine w_a f_420_4171 ?_
    refine w_a f_420_4172 ?_
    refine w_a f_420_4174 ?_
    refine w_a f_420_4175 ?_
    refine w_a f_420_4176 ?_
    refine n_m (fun h => ?_) h
    refine w_a f_420_4177 ?_
    refine w_a f_420_4178 ?_
    refine w_a f_420_4180 ?_
    refine w_a f_420_4181 ?_
    refine w_a f_420_4182 ?_
    refine n_m (fun h => ?_) h
    refine w_a f_420_4183 ?_
    refine w_a f_420_4184 ?_
    refine w_a f_420_4186 ?_
    refine w_a f_420_4187 ?_
    refine w_a f_420_4188 ?_
    refine n_m (fun h => ?_) h
    refine w_a f_420_4189 ?_
    exact w_c (ks := [0, 1, 2, 3, 4]) f_420_4190 rfl rfl h
set_option maxRecDepth 10000 in
set_option maxHeartbeats 4000000 in
theorem s_420_4193 {Lx : Nat} {I : Mi} {L : Ml} {e : Nat} {Q : Kq} {x4 : Int32} {r : Int32} (h :
    (inb (x4 + (Int32.ofInt 1)) Lx (
     (inb (x4 + (Int32.ofInt 2)) Lx (
      (if (I 0 ((x4 + (Int32.ofInt 2)).toNatClampNeg)) = 0 then
       (inb (x4 + (Int32.ofInt 3)) Lx (
        (inb (x4 + (Int32.ofInt 4)) Lx (
         (inb (x4 + (Int32.ofInt 5)) Lx (
          Wp 305 0 [(0, .ref 58), (1, .int (I 0 ((x4 + (Int32.ofInt 1)).toNatClampNeg))), (2, .int (Int32.ofInt 0)), (3, .int (I 0 ((x4 + (Int32.ofInt 3)).toNatClampNeg))), (4, .int (I 0 ((x4 + (Int32.ofInt 4)).toNatClampNeg))), (5, .int (I 0 ((x4 + (Int32.ofInt 5)).toNatClampNeg)))] [] (gE Lx) I L e (kcp (Wp 420) 420 4234 0 [(0, .ref 0), (1, .ref 1), (2, .ref 58), (3, .ref 70), (4, .int x4), (5, .int r)] 71 [] Q))
         False))
        False))
       False)
      else
       (inb (x4 + (Int32.ofInt 3)) Lx (
        (inb (x4 + (Int32.ofInt 4)) Lx (
         (inb (x4 + (Int32.ofInt 5)) Lx (
          Wp 305 0 [(0, .ref 58), (1, .int (I 0 ((x4 + (Int32.ofInt 1)).toNatClampNeg))), (2, .int (Int32.ofInt 1)), (3, .int (I 0 ((x4 + (Int32.ofInt 3)).toNatClampNeg))), (4, .int (I 0 ((x4 + (Int32.ofInt 4)).toNatClampNeg))), (5, .int (I 0 ((x4 + (Int32.ofInt 5)).toNatClampNeg)))] [] (gE Lx) I L e (kcp (Wp 420) 420 4234 0 [(0, .ref 0), (1, .ref 1), (2, .ref 58), (3, .ref 70), (4, .int x4), (5, .int r)] 71 [] Q))
         False))
        False))
       False)))
     False))
    False)) :
    Wp 420 4193 [(0, .ref 0), (1, .ref 1), (2, .ref 58), (3, .ref 70), (4, .int x4)] [.int r] (gE Lx) I L e Q := by
  refine w_a f_420_4193 ?_
  refine w_a (ls := [(5, .int r), (0, .ref 0), (1, .ref 1), (2, .ref 58), (3, .ref 70), (4, .int x4)]) f_420_4195 ?_
  refine w_a f_420_4196 ?_
  refine w_a f_420_4197 ?_
  refine w_a f_420_4199 ?_
  refine w_a f_420_4200 ?_
  refine w_a f_420_4201 ?_
  refine n_m (fun h => ?_) h
  refine w_a f_420_4202 ?_
  refine w_a f_420_4203 ?_
  refine w_a f_420_4205 ?_
  refine w_a f_420_4206 ?_
  refine w_a f_420_4207 ?_
  refine n_m (fun h => ?_) h
  refine w_a f_420_4208 ?_
  refine i_m (fun h => ?_) (fun h => ?_) h
  · refine w_a f_420_4215 ?_
    refine w_a f_420_4216 ?_
    refine w_a f_420_4217 ?_
    refine w_a f_420_4219 ?_
    refine w_a f_420_4220 ?_
    refine w_a f_420_4221 ?_
    refine n_m (fun h => ?_) h
    refine w_a f_420_4222 ?_
    refine w_a f_420_4223 ?_
    refine w_a f_420_4225 ?_
    refine w_a f_420_4226 ?_
    refine w_a f_420_4227 ?_
    refine n_m (fun h => ?_) h
    refine w_a f_420_4228 ?_
    refine w_a f_420_4229 ?_
    refine w_a f_420_4231 ?_
    refine w_a f_420_4232 ?_
    refine w_a f_420_4233 ?_
    refine n_m (fun h => ?_) h
    exact w_c (ks := [0, 1, 2, 3, 4, 5]) f_420_4234 rfl rfl h
  · refine w_a f_420_4211 ?_
    refine w_a f_420_4212 ?_
    refine w_a f_420_4216 ?_
    refine w_a f_420_4217 ?_
    refine w_a f_420_4219 ?_
    refine w_a f_420_4220 ?_
    refine w_a f_420_4221 ?_
    refine n_m (fun h => ?_) h
    refine w_a f_420_4222 ?_
    refine w_a f_420_4223 ?_
    refine w_a f_420_4225 ?_
    refine w_a f_420_4226 ?_
    refine w_a f_420_4227 ?_
    refine n_m (fun h => ?_) h
    refine w_a f_420_4228 ?_
    refine w_a f_420_4229 ?_
    refine w_a f_420_4231 ?_
    refine w_a f_420_4232 ?_
    refine w_a f_420_4233 ?_
    refine n_m (fun h => ?_) h
    exact w_c (ks := [0, 1, 2, 3, 4, 5]) f_420_4234 rfl rfl h
set_option maxRecDepth 10000 in
set_option maxHeartbeats 4000000 in
theorem s_420_4237 {Lx : Nat} {I : Mi} {L : Ml} {e : Nat} {Q : Kq} {x4 : Int32} {x5 : Int32} {r : Int32} (h :
    (if (I 58 0) = x5 then
     (if x5 = 0 then
      (if (L 70 0) = r.toInt64 then
       Wp 420 4917 [(0, .ref 0), (1, .ref 1), (2, .ref 58), (3, .ref 70), (4, .int x4)] [] (gE Lx) I L e Q
      else
       Q (.inl (some (.int (Int32.ofInt 0)))) (gE Lx) I L e)
     else
      Wp 420 4917 [(0, .ref 0), (1, .ref 1), (2, .ref 58), (3, .ref 70), (4, .int x4)] [] (gE Lx) I L e Q)
    else
     Q (.inl (some (.int (Int32.ofInt 0)))) (gE Lx) I L e)) :
    Wp 420 4237 [(0, .ref 0), (1, .ref 1), (2, .ref 58), (3, .ref 70), (4, .int x4), (5, .int x5)] [.int r] (gE Lx) I L e Q := by
  refine w_a f_420_4237 ?_
  refine w_a (ls := [(6, .int r), (0, .ref 0), (1, .ref 1), (2, .ref 58), (3, .ref 70), (4, .int x4), (5, .int x5)]) f_420_4239 ?_
  refine w_a f_420_4240 ?_
  refine w_a (ls := [(0, .ref 58)]) f_212_0 ?_
  refine w_a f_212_1 ?_
  refine w_a f_212_4 ?_
  refine w_a (ls := [(6, .int r), (0, .ref 0), (1, .ref 1), (2, .ref 58), (3, .ref 70), (4, .int x4), (5, .int x5)]) f_420_4243 ?_
  refine w_a f_420_4245 ?_
  refine i_m (fun h => ?_) (fun h => ?_) h
  · refine w_a f_420_4250 ?_
    refine w_a f_420_4252 ?_
    refine i_m (fun h => ?_) (fun h => ?_) h
    · refine w_a f_420_4255 ?_
      refine w_a f_420_4256 ?_
      refine w_a f_420_4257 ?_
      refine w_a f_420_4258 ?_
      refine w_a f_420_4260 ?_
      refine w_a f_420_4261 ?_
      refine i_m (fun h => ?_) (fun h => ?_) h
      · refine w_a f_420_4267 ?_
        exact w_n (ks := [0, 1, 2, 3, 4]) rfl h
      · refine w_a f_420_4265 ?_
        refine w_a f_420_4266 ?_
        exact h
    · refine w_a f_420_4267 ?_
      exact w_n (ks := [0, 1, 2, 3, 4]) rfl h
  · refine w_a f_420_4248 ?_
    refine w_a f_420_4249 ?_
    exact h
set_option maxRecDepth 10000 in
set_option maxHeartbeats 4000000 in
theorem s_420_4270 {Lx : Nat} {I : Mi} {L : Ml} {e : Nat} {Q : Kq} {x4 : Int32} (h :
    (inb (x4 + (Int32.ofInt 1)) Lx (
     (inb (x4 + (Int32.ofInt 2)) Lx (
      (if (I 0 ((x4 + (Int32.ofInt 2)).toNatClampNeg)) = 0 then
       (inb (x4 + (Int32.ofInt 3)) Lx (
        (inb (x4 + (Int32.ofInt 4)) Lx (
         (if (I 0 ((x4 + (Int32.ofInt 4)).toNatClampNeg)) = 0 then
          (inb (x4 + (Int32.ofInt 5)) Lx (
           Wp 408 0 [(0, .ref 1), (1, .int (I 0 ((x4 + (Int32.ofInt 1)).toNatClampNeg))), (2, .int (Int32.ofInt 0)), (3, .int (I 0 ((x4 + (Int32.ofInt 3)).toNatClampNeg))), (4, .int (Int32.ofInt 0)), (5, .int (I 0 ((x4 + (Int32.ofInt 5)).toNatClampNeg))), (6, .ref 70)] [] (gE Lx) I L e (kcp (Wp 420) 420 4318 0 [(0, .ref 0), (1, .ref 1), (2, .ref 58), (3, .ref 70), (4, .int x4)] 71 [] Q))
          False)
         else
          (inb (x4 + (Int32.ofInt 5)) Lx (
           Wp 408 0 [(0, .ref 1), (1, .int (I 0 ((x4 + (Int32.ofInt 1)).toNatClampNeg))), (2, .int (Int32.ofInt 0)), (3, .int (I 0 ((x4 + (Int32.ofInt 3)).toNatClampNeg))), (4, .int (Int32.ofInt 1)), (5, .int (I 0 ((x4 + (Int32.ofInt 5)).toNatClampNeg))), (6, .ref 70)] [] (gE Lx) I L e (kcp (Wp 420) 420 4318 0 [(0, .ref 0), (1, .ref 1), (2, .ref 58), (3, .ref 70), (4, .int x4)] 71 [] Q))
          False)))
        False))
       False)
      else
       (inb (x4 + (Int32.ofInt 3)) Lx (
        (inb (x4 + (Int32.ofInt 4)) Lx (
         (if (I 0 ((x4 + (Int32.ofInt 4)).toNatClampNeg)) = 0 then
          (inb (x4 + (Int32.ofInt 5)) Lx (
           Wp 408 0 [(0, .ref 1), (1, .int (I 0 ((x4 + (Int32.ofInt 1)).toNatClampNeg))), (2, .int (Int32.ofInt 1)), (3, .int (I 0 ((x4 + (Int32.ofInt 3)).toNatClampNeg))), (4, .int (Int32.ofInt 0)), (5, .int (I 0 ((x4 + (Int32.ofInt 5)).toNatClampNeg))), (6, .ref 70)] [] (gE Lx) I L e (kcp (Wp 420) 420 4318 0 [(0, .ref 0), (1, .ref 1), (2, .ref 58), (3, .ref 70), (4, .int x4)] 71 [] Q))
          False)
         else
          (inb (x4 + (Int32.ofInt 5)) Lx (
           Wp 408 0 [(0, .ref 1), (1, .int (I 0 ((x4 + (Int32.ofInt 1)).toNatClampNeg))), (2, .int (Int32.ofInt 1)), (3, .int (I 0 ((x4 + (Int32.ofInt 3)).toNatClampNeg))), (4, .int (Int32.ofInt 1)), (5, .int (I 0 ((x4 + (Int32.ofInt 5)).toNatClampNeg))), (6, .ref 70)] [] (gE Lx) I L e (kcp (Wp 420) 420 4318 0 [(0, .ref 0), (1, .ref 1), (2, .ref 58), (3, .ref 70), (4, .int x4)] 71 [] Q))
          False)))
        False))
       False)))
     False))
    False)) :
    Wp 420 4270 [(0, .ref 0), (1, .ref 1), (2, .ref 58), (3, .ref 70), (4, .int x4)] [] (gE Lx) I L e Q := by
  refine w_a f_420_4270 ?_
  refine w_a f_420_4271 ?_
  refine w_a f_420_4272 ?_
  refine w_a f_420_4274 ?_
  refine w_a f_420_4275 ?_
  refine w_a f_420_4276 ?_
  refine n_m (fun h => ?_) h
  refine w_a f_420_4277 ?_
  refine w_a f_420_4278 ?_
  refine w_a f_420_4280 ?_
  refine w_a f_420_4281 ?_
  refine w_a f_420_4282 ?_
  refine n_m (fun h => ?_) h
  refine w_a f_420_4283 ?_
  refine i_m (fun h => ?_) (fun h => ?_) h
  · refine w_a f_420_4290 ?_
    refine w_a f_420_4291 ?_
    refine w_a f_420_4292 ?_
    refine w_a f_420_4294 ?_
    refine w_a f_420_4295 ?_
    refine w_a f_420_4296 ?_
    refine n_m (fun h => ?_) h
    refine w_a f_420_4297 ?_
    refine w_a f_420_4298 ?_
    refine w_a f_420_4300 ?_
    refine w_a f_420_4301 ?_
    refine w_a f_420_4302 ?_
    refine n_m (fun h => ?_) h
    refine w_a f_420_4303 ?_
    refine i_m (fun h => ?_) (fun h => ?_) h
    · refine w_a f_420_4310 ?_
      refine w_a f_420_4311 ?_
      refine w_a f_420_4312 ?_
      refine w_a f_420_4314 ?_
      refine w_a f_420_4315 ?_
      refine w_a f_420_4316 ?_
      refine n_m (fun h => ?_) h
      refine w_a f_420_4317 ?_
      exact w_c (ks := [0, 1, 2, 3, 4]) f_420_4318 rfl rfl h
    · refine w_a f_420_4306 ?_
      refine w_a f_420_4307 ?_
      refine w_a f_420_4311 ?_
      refine w_a f_420_4312 ?_
      refine w_a f_420_4314 ?_
      refine w_a f_420_4315 ?_
      refine w_a f_420_4316 ?_
      refine n_m (fun h => ?_) h
      refine w_a f_420_4317 ?_
      exact w_c (ks := [0, 1, 2, 3, 4]) f_420_4318 rfl rfl h
  · refine w_a f_420_4286 ?_
    refine w_a f_420_4287 ?_
    refine w_a f_420_4291 ?_
    refine w_a f_420_4292 ?_
    refine w_a f_420_4294 ?_
    refine w_a f_420_4295 ?_
    refine w_a f_420_4296 ?_
    refine n_m (fun h => ?_) h
    refine w_a f_420_4297 ?_
    refine w_a f_420_4298 ?_
    refine w_a f_420_4300 ?_
    refine w_a f_420_4301 ?_
    refine w_a f_420_4302 ?_
    refine n_m (fun h => ?_) h
    refine w_a f_420_4303 ?_
    refine i_m (fun h => ?_) (fun h => ?_) h
    · refine w_a f_420_4310 ?_
      refine w_a f_420_4311 ?_
      refine w_a f_420_4312 ?_
      refine w_a f_420_4314 ?_
      refine w_a f_420_4315 ?_
      refine w_a f_420_4316 ?_
      refine n_m (fun h => ?_) h
      refine w_a f_420_4317 ?_
      exact w_c (ks := [0, 1, 2, 3, 4]) f_420_4318 rfl rfl h
    · refine w_a f_420_4306 ?_
      refine w_a f_420_4307 ?_
      refine w_a f_420_4311 ?_
      refine w_a f_420_4312 ?_
      refine w_a f_420_4314 ?_
      refine w_a f_420_4315 ?_
      refine w_a f_420_4316 ?_
      refine n_m (fun h => ?_) h
      refine w_a f_420_4317 ?_
      exact w_c (ks := [0, 1, 2, 3, 4]) f_420_4318 rfl rfl h
set_option maxRecDepth 10000 in
set_option maxHeartbeats 4000000 in
theorem s_420_4321 {Lx : Nat} {I : Mi} {L : Ml} {e : Nat} {Q : Kq} {x4 : Int32} {r : Int32} (h :
    (inb (x4 + (Int32.ofInt 1)) Lx (
     (inb (x4 + (Int32.ofInt 2)) Lx (
      (if (I 0 ((x4 + (Int32.ofInt 2)).toNatClampNeg)) = 0 then
       (inb (x4 + (Int32.ofInt 3)) Lx (
        (inb (x4 + (Int32.ofInt 4)) Lx (
         (if (I 0 ((x4 + (Int32.ofInt 4)).toNatClampNeg)) = 0 then
          (inb (x4 + (Int32.ofInt 5)) Lx (
           Wp 308 0 [(0, .ref 58), (1, .int (I 0 ((x4 + (Int32.ofInt 1)).toNatClampNeg))), (2, .int (Int32.ofInt 0)), (3, .int (I 0 ((x4 + (Int32.ofInt 3)).toNatClampNeg))), (4, .int (Int32.ofInt 0)), (5, .int (I 0 ((x4 + (Int32.ofInt 5)).toNatClampNeg)))] [] (gE Lx) I L e (kcp (Wp 420) 420 4370 0 [(0, .ref 0), (1, .ref 1), (2, .ref 58), (3, .ref 70), (4, .int x4), (5, .int r)] 71 [] Q))
          False)
         else
          (inb (x4 + (Int32.ofInt 5)) Lx (
           Wp 308 0 [(0, .ref 58), (1, .int (I 0 ((x4 + (Int32.ofInt 1)).toNatClampNeg))), (2, .int (Int32.ofInt 0)), (3, .int (I 0 ((x4 + (Int32.ofInt 3)).toNatClampNeg))), (4, .int (Int32.ofInt 1)), (5, .int (I 0 ((x4 + (Int32.ofInt 5)).toNatClampNeg)))] [] (gE Lx) I L e (kcp (Wp 420) 420 4370 0 [(0, .ref 0), (1, .ref 1), (2, .ref 58), (3, .ref 70), (4, .int x4), (5, .int r)] 71 [] Q))
          False)))
        False))
       False)
      else
       (inb (x4 + (Int32.ofInt 3)) Lx (
        (inb (x4 + (Int32.ofInt 4)) Lx (
         (if (I 0 ((x4 + (Int32.ofInt 4)).toNatClampNeg)) = 0 then
          (inb (x4 + (Int32.ofInt 5)) Lx (
           Wp 308 0 [(0, .ref 58), (1, .int (I 0 ((x4 + (Int32.ofInt 1)).toNatClampNeg))), (2, .int (Int32.ofInt 1)), (3, .int (I 0 ((x4 + (Int32.ofInt 3)).toNatClampNeg))), (4, .int (Int32.ofInt 0)), (5, .int (I 0 ((x4 + (Int32.ofInt 5)).toNatClampNeg)))] [] (gE Lx) I L e (kcp (Wp 420) 420 4370 0 [(0, .ref 0), (1, .ref 1), (2, .ref 58), (3, .ref 70), (4, .int x4), (5, .int r)] 71 [] Q))
          False)
         else
          (inb (x4 + (Int32.ofInt 5)) Lx (
           Wp 308 0 [(0, .ref 58), (1, .int (I 0 ((x4 + (Int32.ofInt 1)).toNatClampNeg))), (2, .int (Int32.ofInt 1)), (3, .int (I 0 ((x4 + (Int32.ofInt 3)).toNatClampNeg))), (4, .int (Int32.ofInt 1)), (5, .int (I 0 ((x4 + (Int32.ofInt 5)).toNatClampNeg)))] [] (gE Lx) I L e (kcp (Wp 420) 420 4370 0 [(0, .ref 0), (1, .ref 1), (2, .ref 58), (3, .ref 70), (4, .int x4), (5, .int r)] 71 [] Q))
          False)))
        False))
       False)))
     False))
    False)) :
    Wp 420 4321 [(0, .ref 0), (1, .ref 1), (2, .ref 58), (3, .ref 70), (4, .int x4)] [.int r] (gE Lx) I L e Q := by
  refine w_a f_420_4321 ?_
  refine w_a (ls := [(5, .int r), (0, .ref 0), (1, .ref 1), (2, .ref 58), (3, .ref 70), (4, .int x4)]) f_420_4323 ?_
  refine w_a f_420_4324 ?_
  refine w_a f_420_4325 ?_
  refine w_a f_420_4327 ?_
  refine w_a f_420_4328 ?_
  refine w_a f_420_4329 ?_
  refine n_m (fun h => ?_) h
  refine w_a f_420_4330 ?_
  refine w_a f_420_4331 ?_
  refine w_a f_420_4333 ?_
  refine w_a f_420_4334 ?_
  refine w_a f_420_4335 ?_
  refine n_m (fun h => ?_) h
  refine w_a f_420_4336 ?_
  refine i_m (fun h => ?_) (fun h => ?_) h
  · refine w_a f_420_4343 ?_
    refine w_a f_420_4344 ?_
    refine w_a f_420_4345 ?_
    refine w_a f_420_4347 ?_
    refine w_a f_420_4348 ?_
    refine w_a f_420_4349 ?_
    refine n_m (fun h => ?_) h
    refine w_a f_420_4350 ?_
    refine w_a f_420_4351 ?_
    refine w_a f_420_4353 ?_
    refine w_a f_420_4354 ?_
    refine w_a f_420_4355 ?_
    refine n_m (fun h => ?_) h
    refine w_a f_420_4356 ?_
    refine i_m (fun h => ?_) (fun h => ?_) h
    · refine w_a f_420_4363 ?_
      refine w_a f_420_4364 ?_
      refine w_a f_420_4365 ?_
      refine w_a f_420_4367 ?_
      refine w_a f_420_4368 ?_
      refine w_a f_420_4369 ?_
      refine n_m (fun h => ?_) h
      exact w_c (ks := [0, 1, 2, 3, 4, 5]) f_420_4370 rfl rfl h
    · refine w_a f_420_4359 ?_
      refine w_a f_420_4360 ?_
      refine w_a f_420_4364 ?_
      refine w_a f_420_4365 ?_
      refine w_a f_420_4367 ?_
      refine w_a f_420_4368 ?_
      refine w_a f_420_4369 ?_
      refine n_m (fun h => ?_) h
      exact w_c (ks := [0, 1, 2, 3, 4, 5]) f_420_4370 rfl rfl h
  · refine w_a f_420_4339 ?_
    refine w_a f_420_4340 ?_
    refine w_a f_420_4344 ?_
    refine w_a f_420_4345 ?_
    refine w_a f_420_4347 ?_
    refine w_a f_420_4348 ?_
    refine w_a f_420_4349 ?_
    refine n_m (fun h => ?_) h
    refine w_a f_420_4350 ?_
    refine w_a f_420_4351 ?_
    refine w_a f_420_4353 ?_
    refine w_a f_420_4354 ?_
    refine w_a f_420_4355 ?_
    refine n_m (fun h => ?_) h
    refine w_a f_420_4356 ?_
    refine i_m (fun h => ?_) (fun h => ?_) h
    · refine w_a f_420_4363 ?_
      refine w_a f_420_4364 ?_
      refine w_a f_420_4365 ?_
      refine w_a f_420_4367 ?_
      refine w_a f_420_4368 ?_
      refine w_a f_420_4369 ?_
      refine n_m (fun h => ?_) h
      exact w_c (ks := [0, 1, 2, 3, 4, 5]) f_420_4370 rfl rfl h
    · refine w_a f_420_4359 ?_
      refine w_a f_420_4360 ?_
      refine w_a f_420_4364 ?_
      refine w_a f_420_4365 ?_
      refine w_a f_420_4367 ?_
      refine w_a f_420_4368 ?_
      refine w_a f_420_4369 ?_
      refine n_m (fun h => ?_) h
      exact w_c (ks := [0, 1, 2, 3, 4, 5]) f_420_4370 rfl rfl h
set_option maxRecDepth 10000 in
set_option maxHeartbeats 4000000 in
theorem s_420_4373 {Lx : Nat} {I : Mi} {L : Ml} {e : Nat} {Q : Kq} {x4 : Int32} {x5 : Int32} {rl : Int64} (h :
    (if (I 58 0) = x5 then
     (if x5 = 0 then
      (if (L 70 0) = rl then
       Wp 420 4917 [(0, .ref 0), (1, .ref 1), (2, .ref 58), (3, .ref 70), (4, .int x4)] [] (gE Lx) I L e Q
      else
       Q (.inl (some (.int (Int32.ofInt 0)))) (gE Lx) I L e)
     else
      Wp 420 4917 [(0, .ref 0), (1, .ref 1), (2, .ref 58), (3, .ref 70), (4, .int x4)] [] (gE Lx) I L e Q)
    else
     Q (.inl (some (.int (Int32.ofInt 0)))) (gE Lx) I L e)) :
    Wp 420 4373 [(0, .ref 0), (1, .ref 1), (2, .ref 58), (3, .ref 70), (4, .int x4), (5, .int x5)] [.long rl] (gE Lx) I L e Q := by
  refine w_a f_420_4373 ?_
  refine w_a (ls := [(6, .long rl), (0, .ref 0), (1, .ref 1), (2, .ref 58), (3, .ref 70), (4, .int x4), (5, .int x5)]) f_420_4375 ?_
  refine w_a f_420_4376 ?_
  refine w_a (ls := [(0, .ref 58)]) f_212_0 ?_
  refine w_a f_212_1 ?_
  refine w_a f_212_4 ?_
  refine w_a (ls := [(6, .long rl), (0, .ref 0), (1, .ref 1), (2, .ref 58), (3, .ref 70), (4, .int x4), (5, .int x5)]) f_420_4379 ?_
  refine w_a f_420_4381 ?_
  refine i_m (fun h => ?_) (fun h => ?_) h
  · refine w_a f_420_4386 ?_
    refine w_a f_420_4388 ?_
    refine i_m (fun h => ?_) (fun h => ?_) h
    · refine w_a f_420_4391 ?_
      refine w_a f_420_4392 ?_
      refine w_a f_420_4393 ?_
      refine w_a f_420_4394 ?_
      refine w_a f_420_4396 ?_
      refine i_m (fun h => ?_) (fun h => ?_) h
      · refine w_a f_420_4402 ?_
        exact w_n (ks := [0, 1, 2, 3, 4]) rfl h
      · refine w_a f_420_4400 ?_
        refine w_a f_420_4401 ?_
        exact h
    · refine w_a f_420_4402 ?_
      exact w_n (ks := [0, 1, 2, 3, 4]) rfl h
  · refine w_a f_420_4384 ?_
    refine w_a f_420_4385 ?_
    exact h
set_option maxRecDepth 10000 in
set_option maxHeartbeats 4000000 in
theorem s_420_4405 {Lx : Nat} {I : Mi} {L : Ml} {e : Nat} {Q : Kq} {x4 : Int32} (h :
    (inb (x4 + (Int32.ofInt 1)) Lx (
     (inb (x4 + (Int32.ofInt 2)) Lx (
      (inb (x4 + (Int32.ofInt 3)) Lx (
       (inb (x4 + (Int32.ofInt 4)) Lx (
        (if (I 0 ((x4 + (Int32.ofInt 4)).toNatClampNeg)) = 0 then
         (inb (x4 + (Int32.ofInt 5)) Lx (
          Wp 409 0 [(0, .ref 1), (1, .int (I 0 ((x4 + (Int32.ofInt 1)).toNatClampNeg))), (2, .int (I 0 ((x4 + (Int32.ofInt 2)).toNatClampNeg))), (3, .int (I 0 ((x4 + (Int32.ofInt 3)).toNatClampNeg))), (4, .int (Int32.ofInt 0)), (5, .int (I 0 ((x4 + (Int32.ofInt 5)).toNatClampNeg))), (6, .ref 70)] [] (gE Lx) I L e (kcp (Wp 420) 420 4445 0 [(0, .ref 0), (1, .ref 1), (2, .ref 58), (3, .ref 70), (4, .int x4)] 71 [] Q))
         False)
        else
         (inb (x4 + (Int32.ofInt 5)) Lx (
          Wp 409 0 [(0, .ref 1), (1, .int (I 0 ((x4 + (Int32.ofInt 1)).toNatClampNeg))), (2, .int (I 0 ((x4 + (Int32.ofInt 2)).toNatClampNeg))), (3, .int (I 0 ((x4 + (Int32.ofInt 3)).toNatClampNeg))), (4, .int (Int32.ofInt 1)), (5, .int (I 0 ((x4 + (Int32.ofInt 5)).toNatClampNeg))), (6, .ref 70)] [] (gE Lx) I L e (kcp (Wp 420) 420 4445 0 [(0, .ref 0), (1, .ref 1), (2, .ref 58), (3, .ref 70), (4, .int x4)] 71 [] Q))
         False)))
       False))
      False))
     False))
    False)) :
    Wp 420 4405 [(0, .ref 0), (1, .ref 1), (2, .ref 58), (3, .ref 70), (4, .int x4)] [] (gE Lx) I L e Q := by
  refine w_a f_420_4405 ?_
  refine w_a f_420_4406 ?_
  refine w_a f_420_4407 ?_
  refine w_a f_420_4409 ?_
  refine w_a f_420_4410 ?_
  refine w_a f_420_4411 ?_
  refine n_m (fun h => ?_) h
  refine w_a f_420_4412 ?_
  refine w_a f_420_4413 ?_
  refine w_a f_420_4415 ?_
  refine w_a f_420_4416 ?_
  refine w_a f_420_4417 ?_
  refine n_m (fun h => ?_) h
  refine w_a f_420_4418 ?_
  refine w_a f_420_4419 ?_
  refine w_a f_420_4421 ?_
  refine w_a f_420_4422 ?_
  refine w_a f_420_4423 ?_
  refine n_m (fun h => ?_) h
  refine w_a f_420_4424 ?_
  refine w_a f_420_4425 ?_
  refine w_a f_420_4427 ?_
  refine w_a f_420_4428 ?_
  refine w_a f_420_4429 ?_
  refine n_m (fun h => ?_) h
  refine w_a f_420_4430 ?_
  refine i_m (fun h => ?_) (fun h => ?_) h
  · refine w_a f_420_4437 ?_
    refine w_a f_420_4438 ?_
    refine w_a f_420_4439 ?_
    refine w_a f_420_4441 ?_
    refine w_a f_420_4442 ?_
    refine w_a f_420_4443 ?_
    refine n_m (fun h => ?_) h
    refine w_a f_420_4444 ?_
    exact w_c (ks := [0, 1, 2, 3, 4]) f_420_4445 rfl rfl h
  · refine w_a f_420_4433 ?_
    refine w_a f_420_4434 ?_
    refine w_a f_420_4438 ?_
    refine w_a f_420_4439 ?_
    refine w_a f_420_4441 ?_
    refine w_a f_420_4442 ?_
    refine w_a f_420_4443 ?_
    refine n_m (fun h => ?_) h
    refine w_a f_420_4444 ?_
    exact w_c (ks := [0, 1, 2, 3, 4]) f_420_4445 rfl rfl h
set_option maxRecDepth 10000 in
set_option maxHeartbeats 4000000 in
theorem s_420_4448 {Lx : Nat} {I : Mi} {L : Ml} {e : Nat} {Q : Kq} {x4 : Int32} {r : Int32} (h :
    (inb (x4 + (Int32.ofInt 1)) Lx (
     (inb (x4 + (Int32.ofInt 2)) Lx (
      (inb (x4 + (Int32.ofInt 3)) Lx (
       (inb (x4 + (Int32.ofInt 4)) Lx (
        (if (I 0 ((x4 + (Int32.ofInt 4)).toNatClampNeg)) = 0 then
         (inb (x4 + (Int32.ofInt 5)) Lx (
          Wp 325 0 [(0, .ref 58), (1, .int (I 0 ((x4 + (Int32.ofInt 1)).toNatClampNeg))), (2, .int (I 0 ((x4 + (Int32.ofInt 2)).toNatClampNeg))), (3, .int (I 0 ((x4 + (Int32.ofInt 3)).toNatClampNeg))), (4, .int (Int32.ofInt 0)), (5, .int (I 0 ((x4 + (Int32.ofInt 5)).toNatClampNeg)))] [] (gE Lx) I L e (kcp (Wp 420) 420 4489 0 [(0, .ref 0), (1, .ref 1), (2, .ref 58), (3, .ref 70), (4, .int x4), (5, .int r)] 71 [] Q))
         False)
        else
         (inb (x4 + (Int32.ofInt 5)) Lx (
          Wp 325 0 [(0, .ref 58), (1, .int (I 0 ((x4 + (Int32.ofInt 1)).toNatClampNeg))), (2, .int (I 0 ((x4 + (Int32.ofInt 2)).toNatClampNeg))), (3, .int (I 0 ((x4 + (Int32.ofInt 3)).toNatClampNeg))), (4, .int (Int32.ofInt 1)), (5, .int (I 0 ((x4 + (Int32.ofInt 5)).toNatClampNeg)))] [] (gE Lx) I L e (kcp (Wp 420) 420 4489 0 [(0, .ref 0), (1, .ref 1), (2, .ref 58), (3, .ref 70), (4, .int x4), (5, .int r)] 71 [] Q))
         False)))
       False))
      False))
     False))
    False)) :
    Wp 420 4448 [(0, .ref 0), (1, .ref 1), (2, .ref 58), (3, .ref 70), (4, .int x4)] [.int r] (gE Lx) I L e Q := by
  refine w_a f_420_4448 ?_
  refine w_a (ls := [(5, .int r), (0, .ref 0), (1, .ref 1), (2, .ref 58), (3, .ref 70), (4, .int x4)]) f_420_4450 ?_
  refine w_a f_420_4451 ?_
  refine w_a f_420_4452 ?_
  refine w_a f_420_4454 ?_
  refine w_a f_420_4455 ?_
  refine w_a f_420_4456 ?_
  refine n_m (fun h => ?_) h
  refine w_a f_420_4457 ?_
  refine w_a f_420_4458 ?_
  refine w_a f_420_4460 ?_
  refine w_a f_420_4461 ?_
  refine w_a f_420_4462 ?_
  refine n_m (fun h => ?_) h
  refine w_a f_420_4463 ?_
  refine w_a f_420_4464 ?_
  refine w_a f_420_4466 ?_
  refine w_a f_420_4467 ?_
  refine w_a f_420_4468 ?_
  refine n_m (fun h => ?_) h
  refine w_a f_420_4469 ?_
  refine w_a f_420_4470 ?_
  refine w_a f_420_4472 ?_
  refine w_a f_420_4473 ?_
  refine w_a f_420_4474 ?_
  refine n_m (fun h => ?_) h
  refine w_a f_420_4475 ?_
  refine i_m (fun h => ?_) (fun h => ?_) h
  · refine w_a f_420_4482 ?_
    refine w_a f_420_4483 ?_
    refine w_a f_420_4484 ?_
    refine w_a f_420_4486 ?_
    refine w_a f_420_4487 ?_
    refine w_a f_420_4488 ?_
    refine n_m (fun h => ?_) h
    exact w_c (ks := [0, 1, 2, 3, 4, 5]) f_420_4489 rfl rfl h
  · refine w_a f_420_4478 ?_
    refine w_a f_420_4479 ?_
    refine w_a f_420_4483 ?_
    refine w_a f_420_4484 ?_
    refine w_a f_420_4486 ?_
    refine w_a f_420_4487 ?_
    refine w_a f_420_4488 ?_
    refine n_m (fun h => ?_) h
    exact w_c (ks := [0, 1, 2, 3, 4, 5]) f_420_4489 rfl rfl h
set_option maxRecDepth 10000 in
set_option maxHeartbeats 4000000 in
theorem s_420_4492 {Lx : Nat} {I : Mi} {L : Ml} {e : Nat} {Q : Kq} {x4 : Int32} {x5 : Int32} {r : Int32} (h :
    (if (I 58 0) = x5 then
     (if x5 = 0 then
      (if (L 70 0) = r.toInt64 then
       Wp 420 4917 [(0, .ref 0), (1, .ref 1), (2, .ref 58), (3, .ref 70), (4, .int x4)] [] (gE Lx) I L e Q
      else
       Q (.inl (some (.int (Int32.ofInt 0)))) (gE Lx) I L e)
     else
      Wp 420 4917 [(0, .ref 0), (1, .ref 1), (2, .ref 58), (3, .ref 70), (4, .int x4)] [] (gE Lx) I L e Q)
    else
     Q (.inl (some (.int (Int32.ofInt 0)))) (gE Lx) I L e)) :
    Wp 420 4492 [(0, .ref 0), (1, .ref 1), (2, .ref 58), (3, .ref 70), (4, .int x4), (5, .int x5)] [.int r] (gE Lx) I L e Q := by
  refine w_a f_420_4492 ?_
  refine w_a (ls := [(6, .int r), (0, .ref 0), (1, .ref 1), (2, .ref 58), (3, .ref 70), (4, .int x4), (5, .int x5)]) f_420_4494 ?_
  refine w_a f_420_4495 ?_
  refine w_a (ls := [(0, .ref 58)]) f_212_0 ?_
  refine w_a f_212_1 ?_
  refine w_a f_212_4 ?_
  refine w_a (ls := [(6, .int r), (0, .ref 0), (1, .ref 1), (2, .ref 58), (3, .ref 70), (4, .int x4), (5, .int x5)]) f_420_4498 ?_
  refine w_a f_420_4500 ?_
  refine i_m (fun h => ?_) (fun h => ?_) h
  · refine w_a f_420_4505 ?_
    refine w_a f_420_4507 ?_
    refine i_m (fun h => ?_) (fun h => ?_) h
    · refine w_a f_420_4510 ?_
      refine w_a f_420_4511 ?_
      refine w_a f_420_4512 ?_
      refine w_a f_420_4513 ?_
      refine w_a f_420_4515 ?_
      refine w_a f_420_4516 ?_
      refine i_m (fun h => ?_) (fun h => ?_) h
      · refine w_a f_420_4522 ?_
        exact w_n (ks := [0, 1, 2, 3, 4]) rfl h
      · refine w_a f_420_4520 ?_
        refine w_a f_420_4521 ?_
        exact h
    · refine w_a f_420_4522 ?_
      exact w_n (ks := [0, 1, 2, 3, 4]) rfl h
  · refine w_a f_420_4503 ?_
    refine w_a f_420_4504 ?_
    exact h
set_option maxRecDepth 10000 in
set_option maxHeartbeats 4000000 in
theorem s_420_4525 {Lx : Nat} {I : Mi} {L : Ml} {e : Nat} {Q : Kq} {x4 : Int32} (h :
    (inb (x4 + (Int32.ofInt 1)) Lx (
     (inb (x4 + (Int32.ofInt 2)) Lx (
      Wp 410 0 [(0, .ref 1), (1, .int (I 0 ((x4 + (Int32.ofInt 1)).toNatClampNeg))), (2, .int (I 0 ((x4 + (Int32.ofInt 2)).toNatClampNeg))), (3, .ref 70)] [] (gE Lx) I L e (kcp (Wp 420) 420 4539 0 [(0, .ref 0), (1, .ref 1), (2, .ref 58), (3, .ref 70), (4, .int x4)] 71 [] Q))
     False))
    False)) :
    Wp 420 4525 [(0, .ref 0), (1, .ref 1), (2, .ref 58), (3, .ref 70), (4, .int x4)] [] (gE Lx) I L e Q := by
  refine w_a f_420_4525 ?_
  refine w_a f_420_4526 ?_
  refine w_a f_420_4527 ?_
  refine w_a f_420_4529 ?_
  refine w_a f_420_4530 ?_
  refine w_a f_420_4531 ?_
  refine n_m (fun h => ?_) h
  refine w_a f_420_4532 ?_
  refine w_a f_420_4533 ?_
  refine w_a f_420_4535 ?_
  refine w_a f_420_4536 ?_
  refine w_a f_420_4537 ?_
  refine n_m (fun h => ?_) h
  refine w_a f_420_4538 ?_
  exact w_c (ks := [0, 1, 2, 3, 4]) f_420_4539 rfl rfl h
set_option maxRecDepth 10000 in
set_option maxHeartbeats 4000000 in
theorem s_420_4542 {Lx : Nat} {I : Mi} {L : Ml} {e : Nat} {Q : Kq} {x4 : Int32} {r : Int32} (h :
    (inb (x4 + (Int32.ofInt 1)) Lx (
     (inb (x4 + (Int32.ofInt 2)) Lx (
      Wp 326 0 [(0, .ref 58), (1, .int (I 0 ((x4 + (Int32.ofInt 1)).toNatClampNeg))), (2, .int (I 0 ((x4 + (Int32.ofInt 2)).toNatClampNeg)))] [] (gE Lx) I L e (kcp (Wp 420) 420 4557 0 [(0, .ref 0), (1, .ref 1), (2, .ref 58), (3, .ref 70), (4, .int x4), (5, .int r)] 71 [] Q))
     False))
    False)) :
    Wp 420 4542 [(0, .ref 0), (1, .ref 1), (2, .ref 58), (3, .ref 70), (4, .int x4)] [.int r] (gE Lx) I L e Q := by
  refine w_a f_420_4542 ?_
  refine w_a (ls := [(5, .int r), (0, .ref 0), (1, .ref 1), (2, .ref 58), (3, .ref 70), (4, .int x4)]) f_420_4544 ?_
  refine w_a f_420_4545 ?_
  refine w_a f_420_4546 ?_
  refine w_a f_420_4548 ?_
  refine w_a f_420_4549 ?_
  refine w_a f_420_4550 ?_
  refine n_m (fun h => ?_) h
  refine w_a f_420_4551 ?_
  refine w_a f_420_4552 ?_
  refine w_a f_420_4554 ?_
  refine w_a f_420_4555 ?_
  refine w_a f_420_4556 ?_
  refine n_m (fun h => ?_) h
  exact w_c (ks := [0, 1, 2, 3, 4, 5]) f_420_4557 rfl rfl h
set_option maxRecDepth 10000 in
set_option maxHeartbeats 4000000 in
theorem s_420_4560 {Lx : Nat} {I : Mi} {L : Ml} {e : Nat} {Q : Kq} {x4 : Int32} {x5 : Int32} {r : Int32} (h :
    (if (I 58 0) = x5 then
     (if x5 = 0 then
      (if (L 70 0) = r.toInt64 then
       Wp 420 4917 [(0, .ref 0), (1, .ref 1), (2, .ref 58), (3, .ref 70), (4, .int x4)] [] (gE Lx) I L e Q
      else
       Q (.inl (some (.int (Int32.ofInt 0)))) (gE Lx) I L e)
     else
      Wp 420 4917 [(0, .ref 0), (1, .ref 1), (2, .ref 58), (3, .ref 70), (4, .int x4)] [] (gE Lx) I L e Q)
    else
     Q (.inl (some (.int (Int32.ofInt 0)))) (gE Lx) I L e)) :
    Wp 420 4560 [(0, .ref 0), (1, .ref 1), (2, .ref 58), (3, .ref 70), (4, .int x4), (5, .int x5)] [.int r] (gE Lx) I L e Q := by
  refine w_a f_420_4560 ?_
  refine w_a (ls := [(6, .int r), (0, .ref 0), (1, .ref 1), (2, .ref 58), (3, .ref 70), (4, .int x4), (5, .int x5)]) f_420_4562 ?_
  refine w_a f_420_4563 ?_
  refine w_a (ls := [(0, .ref 58)]) f_212_0 ?_
  refine w_a f_212_1 ?_
  refine w_a f_212_4 ?_
  refine w_a (ls := [(6, .int r), (0, .ref 0), (1, .ref 1), (2, .ref 58), (3, .ref 70), (4, .int x4), (5, .int x5)]) f_420_4566 ?_
  refine w_a f_420_4568 ?_
  refine i_m (fun h => ?_) (fun h => ?_) h
  · refine w_a f_420_4573 ?_
    refine w_a f_420_4575 ?_
    refine i_m (fun h => ?_) (fun h => ?_) h
    · refine w_a f_420_4578 ?_
      refine w_a f_420_4579 ?_
      refine w_a f_420_4580 ?_
      refine w_a f_420_4581 ?_
      refine w_a f_420_4583 ?_
      refine w_a f_420_4584 ?_
      refine i_m (fun h => ?_) (fun h => ?_) h
      · refine w_a f_420_4590 ?_
        exact w_n (ks := [0, 1, 2, 3, 4]) rfl h
      · refine w_a f_420_4588 ?_
        refine w_a f_420_4589 ?_
        exact h
    · refine w_a f_420_4590 ?_
      exact w_n (ks := [0, 1, 2, 3, 4]) rfl h
  · refine w_a f_420_4571 ?_
    refine w_a f_420_4572 ?_
    exact h
set_option maxRecDepth 10000 in
set_option maxHeartbeats 4000000 in
theorem s_420_4593 {Lx : Nat} {I : Mi} {L : Ml} {e : Nat} {Q : Kq} {x4 : Int32} (h :
    (inb (x4 + (Int32.ofInt 1)) Lx (
     Wp 88 0 [(0, .ref 1), (1, .int (I 0 ((x4 + (Int32.ofInt 1)).toNatClampNeg)))] [] (gE Lx) I L e (kcp (Wp 420) 420 4600 0 [(0, .ref 0), (1, .ref 1), (2, .ref 58), (3, .ref 70), (4, .int x4)] 71 [] Q))
    False)) :
    Wp 420 4593 [(0, .ref 0), (1, .ref 1), (2, .ref 58), (3, .ref 70), (4, .int x4)] [] (gE Lx) I L e Q := by
  refine w_a f_420_4593 ?_
  refine w_a f_420_4594 ?_
  refine w_a f_420_4595 ?_
  refine w_a f_420_4597 ?_
  refine w_a f_420_4598 ?_
  refine w_a f_420_4599 ?_
  refine n_m (fun h => ?_) h
  exact w_c (ks := [0, 1, 2, 3, 4]) f_420_4600 rfl rfl h
set_option maxRecDepth 10000 in
set_option maxHeartbeats 4000000 in
theorem s_420_4603 {Lx : Nat} {I : Mi} {L : Ml} {e : Nat} {Q : Kq} {x4 : Int32} {r : Int32} (h :
    (inb (x4 + (Int32.ofInt 1)) Lx (
     Wp 328 0 [(0, .ref 58), (1, .int (I 0 ((x4 + (Int32.ofInt 1)).toNatClampNeg)))] [] (gE Lx) I L e (kcp (Wp 420) 420 4610 0 [(0, .ref 0), (1, .ref 1), (2, .ref 58), (3, .ref 70), (4, .int x4)] 71 [.int r] Q))
    False)) :
    Wp 420 4603 [(0, .ref 0), (1, .ref 1), (2, .ref 58), (3, .ref 70), (4, .int x4)] [.int r] (gE Lx) I L e Q := by
  refine w_a f_420_4603 ?_
  refine w_a f_420_4604 ?_
  refine w_a f_420_4605 ?_
  refine w_a f_420_4607 ?_
  refine w_a f_420_4608 ?_
  refine w_a f_420_4609 ?_
  refine n_m (fun h => ?_) h
  exact w_c (ks := [0, 1, 2, 3, 4]) f_420_4610 rfl rfl h
set_option maxRecDepth 10000 in
set_option maxHeartbeats 4000000 in
theorem s_420_4613 {Lx : Nat} {I : Mi} {L : Ml} {e : Nat} {Q : Kq} {x4 : Int32} {r0 : Int32} {r : Int32} (h :
    (if r0 = r then
     Wp 420 4917 [(0, .ref 0), (1, .ref 1), (2, .ref 58), (3, .ref 70), (4, .int x4)] [] (gE Lx) I L e Q
    else
     Q (.inl (some (.int (Int32.ofInt 0)))) (gE Lx) I L e)) :
    Wp 420 4613 [(0, .ref 0), (1, .ref 1), (2, .ref 58), (3, .ref 70), (4, .int x4)] [.int r, .int r0] (gE Lx) I L e Q := by
  refine w_a f_420_4613 ?_
  refine i_m (fun h => ?_) (fun h => ?_) h
  · exact w_n (ks := [0, 1, 2, 3, 4]) rfl h
  · refine w_a f_420_4616 ?_
    refine w_a f_420_4617 ?_
    exact h
set_option maxRecDepth 10000 in
set_option maxHeartbeats 4000000 in
theorem s_420_4618 {Lx : Nat} {I : Mi} {L : Ml} {e : Nat} {Q : Kq} {x4 : Int32} (h :
    Wp 93 0 [(0, .ref 1)] [] (gE Lx) I L e (kcp (Wp 420) 420 4619 0 [(0, .ref 0), (1, .ref 1), (2, .ref 58), (3, .ref 70), (4, .int x4)] 71 [] Q)) :
    Wp 420 4618 [(0, .ref 0), (1, .ref 1), (2, .ref 58), (3, .ref 70), (4, .int x4)] [] (gE Lx) I L e Q := by
  refine w_a f_420_4618 ?_
  exact w_c (ks := [0, 1, 2, 3, 4]) f_420_4619 rfl rfl h
set_option maxRecDepth 10000 in
set_option maxHeartbeats 4000000 in
theorem s_420_4622 {Lx : Nat} {I : Mi} {L : Ml} {e : Nat} {Q : Kq} {x4 : Int32} {r : Int32} (h :
    Wp 332 0 [(0, .ref 58)] [] (gE Lx) I L e (kcp (Wp 420) 420 4623 0 [(0, .ref 0), (1, .ref 1), (2, .ref 58), (3, .ref 70), (4, .int x4)] 71 [.int r] Q)) :
    Wp 420 4622 [(0, .ref 0), (1, .ref 1), (2, .ref 58), (3, .ref 70), (4, .int x4)] [.int r] (gE Lx) I L e Q := by
  refine w_a f_420_4622 ?_
  exact w_c (ks := [0, 1, 2, 3, 4]) f_420_4623 rfl rfl h
set_option maxRecDepth 10000 in
set_option maxHeartbeats 4000000 in
theorem s_420_4626 {Lx : Nat} {I : Mi} {L : Ml} {e : Nat} {Q : Kq} {x4 : Int32} {r0 : Int32} {r : Int32} (h :
    (if r0 = r then
     Wp 420 4917 [(0, .ref 0), (1, .ref 1), (2, .ref 58), (3, .ref 70), (4, .int x4)] [] (gE Lx) I L e Q
    else
     Q (.inl (some (.int (Int32.ofInt 0)))) (gE Lx) I L e)) :
    Wp 420 4626 [(0, .ref 0), (1, .ref 1), (2, .ref 58), (3, .ref 70), (4, .int x4)] [.int r, .int r0] (gE Lx) I L e Q := by
  refine w_a f_420_4626 ?_
  refine i_m (fun h => ?_) (fun h => ?_) h
  · exact w_n (ks := [0, 1, 2, 3, 4]) rfl h
  · refine w_a f_420_4629 ?_
    refine w_a f_420_4630 ?_
    exact h
set_option maxRecDepth 10000 in
set_option maxHeartbeats 4000000 in
theorem s_420_4631 {Lx : Nat} {I : Mi} {L : Ml} {e : Nat} {Q : Kq} {x4 : Int32} (h :
    (inb (x4 + (Int32.ofInt 1)) Lx (
     Wp 411 0 [(0, .ref 1), (1, .int (I 0 ((x4 + (Int32.ofInt 1)).toNatClampNeg))), (2, .ref 70)] [] (gE Lx) I L e (kcp (Wp 420) 420 4639 0 [(0, .ref 0), (1, .ref 1), (2, .ref 58), (3, .ref 70), (4, .int x4)] 71 [] Q))
    False)) :
    Wp 420 4631 [(0, .ref 0), (1, .ref 1), (2, .ref 58), (3, .ref 70), (4, .int x4)] [] (gE Lx) I L e Q := by
  refine w_a f_420_4631 ?_
  refine w_a f_420_4632 ?_
  refine w_a f_420_4633 ?_
  refine w_a f_420_4635 ?_
  refine w_a f_420_4636 ?_
  refine w_a f_420_4637 ?_
  refine n_m (fun h => ?_) h
  refine w_a f_420_4638 ?_
  exact w_c (ks := [0, 1, 2, 3, 4]) f_420_4639 rfl rfl h
set_option maxRecDepth 10000 in
set_option maxHeartbeats 4000000 in
theorem s_420_4642 {Lx : Nat} {I : Mi} {L : Ml} {e : Nat} {Q : Kq} {x4 : Int32} {r : Int32} (h :
    (inb (x4 + (Int32.ofInt 1)) Lx (
     Wp 333 0 [(0, .ref 58), (1, .int (I 0 ((x4 + (Int32.ofInt 1)).toNatClampNeg)))] [] (gE Lx) I L e (kcp (Wp 420) 420 4651 0 [(0, .ref 0), (1, .ref 1), (2, .ref 58), (3, .ref 70), (4, .int x4), (5, .int r)] 71 [] Q))
    False)) :
    Wp 420 4642 [(0, .ref 0), (1, .ref 1), (2, .ref 58), (3, .ref 70), (4, .int x4)] [.int r] (gE Lx) I L e Q := by
  refine w_a f_420_4642 ?_
  refine w_a (ls := [(5, .int r), (0, .ref 0), (1, .ref 1), (2, .ref 58), (3, .ref 70), (4, .int x4)]) f_420_4644 ?_
  refine w_a f_420_4645 ?_
  refine w_a f_420_4646 ?_
  refine w_a f_420_4648 ?_
  refine w_a f_420_4649 ?_
  refine w_a f_420_4650 ?_
  refine n_m (fun h => ?_) h
  exact w_c (ks := [0, 1, 2, 3, 4, 5]) f_420_4651 rfl rfl h
set_option maxRecDepth 10000 in
set_option maxHeartbeats 4000000 in
theorem s_420_4654 {Lx : Nat} {I : Mi} {L : Ml} {e : Nat} {Q : Kq} {x4 : Int32} {x5 : Int32} {r : Int32} (h :
    (if (I 58 0) = x5 then
     (if x5 = 0 then
      (if (L 70 0) = r.toInt64 then
       Wp 420 4917 [(0, .ref 0), (1, .ref 1), (2, .ref 58), (3, .ref 70), (4, .int x4)] [] (gE Lx) I L e Q
      else
       Q (.inl (some (.int (Int32.ofInt 0)))) (gE Lx) I L e)
     else
      Wp 420 4917 [(0, .ref 0), (1, .ref 1), (2, .ref 58), (3, .ref 70), (4, .int x4)] [] (gE Lx) I L e Q)
    else
     Q (.inl (some (.int (Int32.ofInt 0)))) (gE Lx) I L e)) :
    Wp 420 4654 [(0, .ref 0), (1, .ref 1), (2, .ref 58), (3, .ref 70), (4, .int x4), (5, .int x5)] [.int r] (gE Lx) I L e Q := by
  refine w_a f_420_4654 ?_
  refine w_a (ls := [(6, .int r), (0, .ref 0), (1, .ref 1), (2, .ref 58), (3, .ref 70), (4, .int x4), (5, .int x5)]) f_420_4656 ?_
  refine w_a f_420_4657 ?_
  refine w_a (ls := [(0, .ref 58)]) f_212_0 ?_
  refine w_a f_212_1 ?_
  refine w_a f_212_4 ?_
  refine w_a (ls := [(6, .int r), (0, .ref 0), (1, .ref 1), (2, .ref 58), (3, .ref 70), (4, .int x4), (5, .int x5)]) f_420_4660 ?_
  refine w_a f_420_4662 ?_
  refine i_m (fun h => ?_) (fun h => ?_) h
  · refine w_a f_420_4667 ?_
    refine w_a f_420_4669 ?_
    refine i_m (fun h => ?_) (fun h => ?_) h
    · refine w_a f_420_4672 ?_
      refine w_a f_420_4673 ?_
      refine w_a f_420_4674 ?_
      refine w_a f_420_4675 ?_
      refine w_a f_420_4677 ?_
      refine w_a f_420_4678 ?_
      refine i_m (fun h => ?_) (fun h => ?_) h
      · refine w_a f_420_4684 ?_
        exact w_n (ks := [0, 1, 2, 3, 4]) rfl h
      · refine w_a f_420_4682 ?_
        refine w_a f_420_4683 ?_
        exact h
    · refine w_a f_420_4684 ?_
      exact w_n (ks := [0, 1, 2, 3, 4]) rfl h
  · refine w_a f_420_4665 ?_
    refine w_a f_420_4666 ?_
    exact h
set_option maxRecDepth 10000 in
set_option maxHeartbeats 4000000 in
theorem s_420_4687 {Lx : Nat} {I : Mi} {L : Ml} {e : Nat} {Q : Kq} {x4 : Int32} (h :
    Wp 94 0 [(0, .ref 1)] [] (gE Lx) I L e (kcp (Wp 420) 420 4688 0 [(0, .ref 0), (1, .ref 1), (2, .ref 58), (3, .ref 70), (4, .int x4)] 71 [] Q)) :
    Wp 420 4687 [(0, .ref 0), (1, .ref 1), (2, .ref 58), (3, .ref 70), (4, .int x4)] [] (gE Lx) I L e Q := by
  refine w_a f_420_4687 ?_
  exact w_c (ks := [0, 1, 2, 3, 4]) f_420_4688 rfl rfl h
set_option maxRecDepth 10000 in
set_option maxHeartbeats 4000000 in
theorem s_420_4691 {Lx : Nat} {I : Mi} {L : Ml} {e : Nat} {Q : Kq} {x4 : Int32} {r : Int32} (h :
    Wp 350 0 [(0, .ref 58)] [] (gE Lx) I L e (kcp (Wp 420) 420 4692 0 [(0, .ref 0), (1, .ref 1), (2, .ref 58), (3, .ref 70), (4, .int x4)] 71 [.int r] Q)) :
    Wp 420 4691 [(0, .ref 0), (1, .ref 1), (2, .ref 58), (3, .ref 70), (4, .int x4)] [.int r] (gE Lx) I L e Q := by
  refine w_a f_420_4691 ?_
  exact w_c (ks := [0, 1, 2, 3, 4]) f_420_4692 rfl rfl h
set_option maxRecDepth 10000 in
set_option maxHeartbeats 4000000 in
theorem s_420_4695 {Lx : Nat} {I : Mi} {L : Ml} {e : Nat} {Q : Kq} {x4 : Int32} {r0 : Int32} {r : Int32} (h :
    (if r0 = r then
     Wp 420 4917 [(0, .ref 0), (1, .ref 1), (2, .ref 58), (3, .ref 70), (4, .int x4)] [] (gE Lx) I L e Q
    else
     Q (.inl (some (.int (Int32.ofInt 0)))) (gE Lx) I L e)) :
    Wp 420 4695 [(0, .ref 0), (1, .ref 1), (2, .ref 58), (3, .ref 70), (4, .int x4)] [.int r, .int r0] (gE Lx) I L e Q := by
  refine w_a f_420_4695 ?_
  refine i_m (fun h => ?_) (fun h => ?_) h
  · exact w_n (ks := [0, 1, 2, 3, 4]) rfl h
  · refine w_a f_420_4698 ?_
    refine w_a f_420_4699 ?_
    exact h
set_option maxRecDepth 10000 in
set_option maxHeartbeats 4000000 in
theorem s_420_4700 {Lx : Nat} {I : Mi} {L : Ml} {e : Nat} {Q : Kq} {x4 : Int32} (h :
    (inb (x4 + (Int32.ofInt 1)) Lx (
     Wp 412 0 [(0, .ref 1), (1, .int (I 0 ((x4 + (Int32.ofInt 1)).toNatClampNeg))), (2, .ref 70)] [] (gE Lx) I L e (kcp (Wp 420) 420 4708 0 [(0, .ref 0), (1, .ref 1), (2, .ref 58), (3, .ref 70), (4, .int x4)] 71 [] Q))
    False)) :
    Wp 420 4700 [(0, .ref 0), (1, .ref 1), (2, .ref 58), (3, .ref 70), (4, .int x4)] [] (gE Lx) I L e Q := by
  refine w_a f_420_4700 ?_
  refine w_a f_420_4701 ?_
  refine w_a f_420_4702 ?_
  refine w_a f_420_4704 ?_
  refine w_a f_420_4705 ?_
  refine w_a f_420_4706 ?_
  refine n_m (fun h => ?_) h
  refine w_a f_420_4707 ?_
  exact w_c (ks := [0, 1, 2, 3, 4]) f_420_4708 rfl rfl h
set_option maxRecDepth 10000 in
set_option maxHeartbeats 4000000 in
theorem s_420_4711 {Lx : Nat} {I : Mi} {L : Ml} {e : Nat} {Q : Kq} {x4 : Int32} {r : Int32} (h :
    (inb (x4 + (Int32.ofInt 1)) Lx (
     Wp 352 0 [(0, .ref 58), (1, .int (I 0 ((x4 + (Int32.ofInt 1)).toNatClampNeg)))] [] (gE Lx) I L e (kcp (Wp 420) 420 4720 0 [(0, .ref 0), (1, .ref 1), (2, .ref 58), (3, .ref 70), (4, .int x4), (5, .int r)] 71 [] Q))
    False)) :
    Wp 420 4711 [(0, .ref 0), (1, .ref 1), (2, .ref 58), (3, .ref 70), (4, .int x4)] [.int r] (gE Lx) I L e Q := by
  refine w_a f_420_4711 ?_
  refine w_a (ls := [(5, .int r), (0, .ref 0), (1, .ref 1), (2, .ref 58), (3, .ref 70), (4, .int x4)]) f_420_4713 ?_
  refine w_a f_420_4714 ?_
  refine w_a f_420_4715 ?_
  refine w_a f_420_4717 ?_
  refine w_a f_420_4718 ?_
  refine w_a f_420_4719 ?_
  refine n_m (fun h => ?_) h
  exact w_c (ks := [0, 1, 2, 3, 4, 5]) f_420_4720 rfl rfl h
set_option maxRecDepth 10000 in
set_option maxHeartbeats 4000000 in
theorem s_420_4723 {Lx : Nat} {I : Mi} {L : Ml} {e : Nat} {Q : Kq} {x4 : Int32} {x5 : Int32} {rl : Int64} (h :
    (if (I 58 0) = x5 then
     (if x5 = 0 then
      (if (L 70 0) = rl then
       Wp 420 4917 [(0, .ref 0), (1, .ref 1), (2, .ref 58), (3, .ref 70), (4, .int x4)] [] (gE Lx) I L e Q
      else
       Q (.inl (some (.int (Int32.ofInt 0)))) (gE Lx) I L e)
     else
      Wp 420 4917 [(0, .ref 0), (1, .ref 1), (2, .ref 58), (3, .ref 70), (4, .int x4)] [] (gE Lx) I L e Q)
    else
     Q (.inl (some (.int (Int32.ofInt 0)))) (gE Lx) I L e)) :
    Wp 420 4723 [(0, .ref 0), (1, .ref 1), (2, .ref 58), (3, .ref 70), (4, .int x4), (5, .int x5)] [.long rl] (gE Lx) I L e Q := by
  refine w_a f_420_4723 ?_
  refine w_a (ls := [(6, .long rl), (0, .ref 0), (1, .ref 1), (2, .ref 58), (3, .ref 70), (4, .int x4), (5, .int x5)]) f_420_4725 ?_
  refine w_a f_420_4726 ?_
  refine w_a (ls := [(0, .ref 58)]) f_212_0 ?_
  refine w_a f_212_1 ?_
  refine w_a f_212_4 ?_
  refine w_a (ls := [(6, .long rl), (0, .ref 0), (1, .ref 1), (2, .ref 58), (3, .ref 70), (4, .int x4), (5, .int x5)]) f_420_4729 ?_
  refine w_a f_420_4731 ?_
  refine i_m (fun h => ?_) (fun h => ?_) h
  · refine w_a f_420_4736 ?_
    refine w_a f_420_4738 ?_
    refine i_m (fun h => ?_) (fun h => ?_) h
    · refine w_a f_420_4741 ?_
      refine w_a f_420_4742 ?_
      refine w_a f_420_4743 ?_
      refine w_a f_420_4744 ?_
      refine w_a f_420_4746 ?_
      refine i_m (fun h => ?_) (fun h => ?_) h
      · refine w_a f_420_4752 ?_
        exact w_n (ks := [0, 1, 2, 3, 4]) rfl h
      · refine w_a f_420_4750 ?_
        refine w_a f_420_4751 ?_
        exact h
    · refine w_a f_420_4752 ?_
      exact w_n (ks := [0, 1, 2, 3, 4]) rfl h
  · refine w_a f_420_4734 ?_
    refine w_a f_420_4735 ?_
    exact h
set_option maxRecDepth 10000 in
set_option maxHeartbeats 4000000 in
theorem s_420_4755 {Lx : Nat} {I : Mi} {L : Ml} {e : Nat} {Q : Kq} {x4 : Int32} (h :
    (inb (x4 + (Int32.ofInt 1)) Lx (
     Wp 413 0 [(0, .ref 1), (1, .int (I 0 ((x4 + (Int32.ofInt 1)).toNatClampNeg))), (2, .ref 70)] [] (gE Lx) I L e (kcp (Wp 420) 420 4763 0 [(0, .ref 0), (1, .ref 1), (2, .ref 58), (3, .ref 70), (4, .int x4)] 71 [] Q))
    False)) :
    Wp 420 4755 [(0, .ref 0), (1, .ref 1), (2, .ref 58), (3, .ref 70), (4, .int x4)] [] (gE Lx) I L e Q := by
  refine w_a f_420_4755 ?_
  refine w_a f_420_4756 ?_
  refine w_a f_420_4757 ?_
  refine w_a f_420_4759 ?_
  refine w_a f_420_4760 ?_
  refine w_a f_420_4761 ?_
  refine n_m (fun h => ?_) h
  refine w_a f_420_4762 ?_
  exact w_c (ks := [0, 1, 2, 3, 4]) f_420_4763 rfl rfl h
set_option maxRecDepth 10000 in
set_option maxHeartbeats 4000000 in
theorem s_420_4766 {Lx : Nat} {I : Mi} {L : Ml} {e : Nat} {Q : Kq} {x4 : Int32} {r : Int32} (h :
    (inb (x4 + (Int32.ofInt 1)) Lx (
     Wp 354 0 [(0, .ref 58), (1, .int (I 0 ((x4 + (Int32.ofInt 1)).toNatClampNeg)))] [] (gE Lx) I L e (kcp (Wp 420) 420 4775 0 [(0, .ref 0), (1, .ref 1), (2, .ref 58), (3, .ref 70), (4, .int x4), (5, .int r)] 71 [] Q))
    False)) :
    Wp 420 4766 [(0, .ref 0), (1, .ref 1), (2, .ref 58), (3, .ref 70), (4, .int x4)] [.int r] (gE Lx) I L e Q := by
  refine w_a f_420_4766 ?_
  refine w_a (ls := [(5, .int r), (0, .ref 0), (1, .ref 1), (2, .ref 58), (3, .ref 70), (4, .int x4)]) f_420_4768 ?_
  refine w_a f_420_4769 ?_
  refine w_a f_420_4770 ?_
  refine w_a f_420_4772 ?_
  refine w_a f_420_4773 ?_
  refine w_a f_420_4774 ?_
  refine n_m (fun h => ?_) h
  exact w_c (ks := [0, 1, 2, 3, 4, 5]) f_420_4775 rfl rfl h
set_option maxRecDepth 10000 in
set_option maxHeartbeats 4000000 in
theorem s_420_4778 {Lx : Nat} {I : Mi} {L : Ml} {e : Nat} {Q : Kq} {x4 : Int32} {x5 : Int32} {r : Int32} (h :
    (if (I 58 0) = x5 then
     (if x5 = 0 then
      (if (L 70 0) = r.toInt64 then
       Wp 420 4917 [(0, .ref 0), (1, .ref 1), (2, .ref 58), (3, .ref 70), (4, .int x4)] [] (gE Lx) I L e Q
      else
       Q (.inl (some (.int (Int32.ofInt 0)))) (gE Lx) I L e)
     else
      Wp 420 4917 [(0, .ref 0), (1, .ref 1), (2, .ref 58), (3, .ref 70), (4, .int x4)] [] (gE Lx) I L e Q)
    else
     Q (.inl (some (.int (Int32.ofInt 0)))) (gE Lx) I L e)) :
    Wp 420 4778 [(0, .ref 0), (1, .ref 1), (2, .ref 58), (3, .ref 70), (4, .int x4), (5, .int x5)] [.int r] (gE Lx) I L e Q := by
  refine w_a f_420_4778 ?_
  refine w_a (ls := [(6, .int r), (0, .ref 0), (1, .ref 1), (2, .ref 58), (3, .ref 70), (4, .int x4), (5, .int x5)]) f_420_4780 ?_
  refine w_a f_420_4781 ?_
  refine w_a (ls := [(0, .ref 58)]) f_212_0 ?_
  refine w_a f_212_1 ?_
  refine w_a f_212_4 ?_
  refine w_a (ls := [(6, .int r), (0, .ref 0), (1, .ref 1), (2, .ref 58), (3, .ref 70), (4, .int x4), (5, .int x5)]) f_420_4784 ?_
  refine w_a f_420_4786 ?_
  refine i_m (fun h => ?_) (fun h => ?_) h
  · refine w_a f_420_4791 ?_
    refine w_a f_420_4793 ?_
    refine i_m (fun h => ?_) (fun h => ?_) h
    · refine w_a f_420_4796 ?_
      refine w_a f_420_4797 ?_
      refine w_a f_420_4798 ?_
      refine w_a f_420_4799 ?_
      refine w_a f_420_4801 ?_
      refine w_a f_420_4802 ?_
      refine i_m (fun h => ?_) (fun h => ?_) h
      · refine w_a f_420_4808 ?_
        exact w_n (ks := [0, 1, 2, 3, 4]) rfl h
      · refine w_a f_420_4806 ?_
        refine w_a f_420_4807 ?_
        exact h
    · refine w_a f_420_4808 ?_
      exact w_n (ks := [0, 1, 2, 3, 4]) rfl h
  · refine w_a f_420_4789 ?_
    refine w_a f_420_4790 ?_
    exact h
set_option maxRecDepth 10000 in
set_option maxHeartbeats 4000000 in
theorem s_420_4811 {Lx : Nat} {I : Mi} {L : Ml} {e : Nat} {Q : Kq} {x4 : Int32} (h :
    (inb (x4 + (Int32.ofInt 1)) Lx (
     Wp 414 0 [(0, .ref 1), (1, .int (I 0 ((x4 + (Int32.ofInt 1)).toNatClampNeg))), (2, .ref 70)] [] (gE Lx) I L e (kcp (Wp 420) 420 4819 0 [(0, .ref 0), (1, .ref 1), (2, .ref 58), (3, .ref 70), (4, .int x4)] 71 [] Q))
    False)) :
    Wp 420 4811 [(0, .ref 0), (1, .ref 1), (2, .ref 58), (3, .ref 70), (4, .int x4)] [] (gE Lx) I L e Q := by
  refine w_a f_420_4811 ?_
  refine w_a f_420_4812 ?_
  refine w_a f_420_4813 ?_
  refine w_a f_420_4815 ?_
  refine w_a f_420_4816 ?_
  refine w_a f_420_4817 ?_
  refine n_m (fun h => ?_) h
  refine w_a f_420_4818 ?_
  exact w_c (ks := [0, 1, 2, 3, 4]) f_420_4819 rfl rfl h
set_option maxRecDepth 10000 in
set_option maxHeartbeats 4000000 in
theorem s_420_4822 {Lx : Nat} {I : Mi} {L : Ml} {e : Nat} {Q : Kq} {x4 : Int32} {r : Int32} (h :
    (inb (x4 + (Int32.ofInt 1)) Lx (
     Wp 356 0 [(0, .ref 58), (1, .int (I 0 ((x4 + (Int32.ofInt 1)).toNatClampNeg)))] [] (gE Lx) I L e (kcp (Wp 420) 420 4831 0 [(0, .ref 0), (1, .ref 1), (2, .ref 58), (3, .ref 70), (4, .int x4), (5, .int r)] 71 [] Q))
    False)) :
    Wp 420 4822 [(0, .ref 0), (1, .ref 1), (2, .ref 58), (3, .ref 70), (4, .int x4)] [.int r] (gE Lx) I L e Q := by
  refine w_a f_420_4822 ?_
  refine w_a (ls := [(5, .int r), (0, .ref 0), (1, .ref 1), (2, .ref 58), (3, .ref 70), (4, .int x4)]) f_420_4824 ?_
  refine w_a f_420_4825 ?_
  refine w_a f_420_4826 ?_
  refine w_a f_420_4828 ?_
  refine w_a f_420_4829 ?_
  refine w_a f_420_4830 ?_
  refine n_m (fun h => ?_) h
  exact w_c (ks := [0, 1, 2, 3, 4, 5]) f_420_4831 rfl rfl h
set_option maxRecDepth 10000 in
set_option maxHeartbeats 4000000 in
theorem s_420_4834 {Lx : Nat} {I : Mi} {L : Ml} {e : Nat} {Q : Kq} {x4 : Int32} {x5 : Int32} {r : Int32} (h :
    (if (I 58 0) = x5 then
     (if x5 = 0 then
      (if (L 70 0) = r.toInt64 then
       Wp 420 4917 [(0, .ref 0), (1, .ref 1), (2, .ref 58), (3, .ref 70), (4, .int x4)] [] (gE Lx) I L e Q
      else
       Q (.inl (some (.int (Int32.ofInt 0)))) (gE Lx) I L e)
     else
      Wp 420 4917 [(0, .ref 0), (1, .ref 1), (2, .ref 58), (3, .ref 70), (4, .int x4)] [] (gE Lx) I L e Q)
    else
     Q (.inl (some (.int (Int32.ofInt 0)))) (gE Lx) I L e)) :
    Wp 420 4834 [(0, .ref 0), (1, .ref 1), (2, .ref 58), (3, .ref 70), (4, .int x4), (5, .int x5)] [.int r] (gE Lx) I L e Q := by
  refine w_a f_420_4834 ?_
  refine w_a (ls := [(6, .int r), (0, .ref 0), (1, .ref 1), (2, .ref 58), (3, .ref 70), (4, .int x4), (5, .int x5)]) f_420_4836 ?_
  refine w_a f_420_4837 ?_
  refine w_a (ls := [(0, .ref 58)]) f_212_0 ?_
  refine w_a f_212_1 ?_
  refine w_a f_212_4 ?_
  refine w_a (ls := [(6, .int r), (0, .ref 0), (1, .ref 1), (2, .ref 58), (3, .ref 70), (4, .int x4), (5, .int x5)]) f_420_4840 ?_
  refine w_a f_420_4842 ?_
  refine i_m (fun h => ?_) (fun h => ?_) h
  · refine w_a f_420_4847 ?_
    refine w_a f_420_4849 ?_
    refine i_m (fun h => ?_) (fun h => ?_) h
    · refine w_a f_420_4852 ?_
      refine w_a f_420_4853 ?_
      refine w_a f_420_4854 ?_
      refine w_a f_420_4855 ?_
      refine w_a f_420_4857 ?_
      refine w_a f_420_4858 ?_
      refine i_m (fun h => ?_) (fun h => ?_) h
      · refine w_a f_420_4864 ?_
        exact w_n (ks := [0, 1, 2, 3, 4]) rfl h
      · refine w_a f_420_4862 ?_
        refine w_a f_420_4863 ?_
        exact h
    · refine w_a f_420_4864 ?_
      exact w_n (ks := [0, 1, 2, 3, 4]) rfl h
  · refine w_a f_420_4845 ?_
    refine w_a f_420_4846 ?_
    exact h
set_option maxRecDepth 10000 in
set_option maxHeartbeats 4000000 in
theorem s_420_4867 {Lx : Nat} {I : Mi} {L : Ml} {e : Nat} {Q : Kq} {x4 : Int32} (h :
    (inb (x4 + (Int32.ofInt 1)) Lx (
     Wp 100 0 [(0, .ref 1), (1, .int (I 0 ((x4 + (Int32.ofInt 1)).toNatClampNeg)))] [] (gE Lx) I L e (kcp (Wp 420) 420 4874 0 [(0, .ref 0), (1, .ref 1), (2, .ref 58), (3, .ref 70), (4, .int x4)] 71 [] Q))
    False)) :
    Wp 420 4867 [(0, .ref 0), (1, .ref 1), (2, .ref 58), (3, .ref 70), (4, .int x4)] [] (gE Lx) I L e Q := by
  refine w_a f_420_4867 ?_
  refine w_a f_420_4868 ?_
  refine w_a f_420_4869 ?_
  refine w_a f_420_4871 ?_
  refine w_a f_420_4872 ?_
  refine w_a f_420_4873 ?_
  refine n_m (fun h => ?_) h
  exact w_c (ks := [0, 1, 2, 3, 4]) f_420_4874 rfl rfl h
set_option maxRecDepth 10000 in
set_option maxHeartbeats 4000000 in
theorem s_420_4877 {Lx : Nat} {I : Mi} {L : Ml} {e : Nat} {Q : Kq} {x4 : Int32} {r : Int32} (h :
    (inb (x4 + (Int32.ofInt 1)) Lx (
     Wp 359 0 [(0, .ref 58), (1, .int (I 0 ((x4 + (Int32.ofInt 1)).toNatClampNeg)))] [] (gE Lx) I L e (kcp (Wp 420) 420 4884 0 [(0, .ref 0), (1, .ref 1), (2, .ref 58), (3, .ref 70), (4, .int x4)] 71 [.int r] Q))
    False)) :
    Wp 420 4877 [(0, .ref 0), (1, .ref 1), (2, .ref 58), (3, .ref 70), (4, .int x4)] [.int r] (gE Lx) I L e Q := by
  refine w_a f_420_4877 ?_
  refine w_a f_420_4878 ?_
  refine w_a f_420_4879 ?_
  refine w_a f_420_4881 ?_
  refine w_a f_420_4882 ?_
  refine w_a f_420_4883 ?_
  refine n_m (fun h => ?_) h
  exact w_c (ks := [0, 1, 2, 3, 4]) f_420_4884 rfl rfl h
set_option maxRecDepth 10000 in
set_option maxHeartbeats 4000000 in
theorem s_420_4887 {Lx : Nat} {I : Mi} {L : Ml} {e : Nat} {Q : Kq} {x4 : Int32} {r0 : Int32} {r : Int32} (h :
    (if r0 = r then
     Wp 420 4917 [(0, .ref 0), (1, .ref 1), (2, .ref 58), (3, .ref 70), (4, .int x4)] [] (gE Lx) I L e Q
    else
     Q (.inl (some (.int (Int32.ofInt 0)))) (gE Lx) I L e)) :
    Wp 420 4887 [(0, .ref 0), (1, .ref 1), (2, .ref 58), (3, .ref 70), (4, .int x4)] [.int r, .int r0] (gE Lx) I L e Q := by
  refine w_a f_420_4887 ?_
  refine i_m (fun h => ?_) (fun h => ?_) h
  · exact w_n (ks := [0, 1, 2, 3, 4]) rfl h
  · refine w_a f_420_4890 ?_
    refine w_a f_420_4891 ?_
    exact h
set_option maxRecDepth 10000 in
set_option maxHeartbeats 4000000 in
theorem s_420_4892 {Lx : Nat} {I : Mi} {L : Ml} {e : Nat} {Q : Kq} {x4 : Int32} (h :
    (inb (x4 + (Int32.ofInt 1)) Lx (
     Wp 103 0 [(0, .ref 1), (1, .int (I 0 ((x4 + (Int32.ofInt 1)).toNatClampNeg)))] [] (gE Lx) I L e (kcp (Wp 420) 420 4899 0 [(0, .ref 0), (1, .ref 1), (2, .ref 58), (3, .ref 70), (4, .int x4)] 71 [] Q))
    False)) :
    Wp 420 4892 [(0, .ref 0), (1, .ref 1), (2, .ref 58), (3, .ref 70), (4, .int x4)] [] (gE Lx) I L e Q := by
  refine w_a f_420_4892 ?_
  refine w_a f_420_4893 ?_
  refine w_a f_420_4894 ?_
  refine w_a f_420_4896 ?_
  refine w_a f_420_4897 ?_
  refine w_a f_420_4898 ?_
  refine n_m (fun h => ?_) h
  exact w_c (ks := [0, 1, 2, 3, 4]) f_420_4899 rfl rfl h
set_option maxRecDepth 10000 in
set_option maxHeartbeats 4000000 in
theorem s_420_4902 {Lx : Nat} {I : Mi} {L : Ml} {e : Nat} {Q : Kq} {x4 : Int32} {r : Int32} (h :
    (inb (x4 + (Int32.ofInt 1)) Lx (
     Wp 362 0 [(0, .ref 58), (1, .int (I 0 ((x4 + (Int32.ofInt 1)).toNatClampNeg)))] [] (gE Lx) I L e (kcp (Wp 420) 420 4909 0 [(0, .ref 0), (1, .ref 1), (2, .ref 58), (3, .ref 70), (4, .int x4)] 71 [.int r] Q))
    False)) :
    Wp 420 4902 [(0, .ref 0), (1, .ref 1), (2, .ref 58), (3, .ref 70), (4, .int x4)] [.int r] (gE Lx) I L e Q := by
  refine w_a f_420_4902 ?_
  refine w_a f_420_4903 ?_
  refine w_a f_420_4904 ?_
  refine w_a f_420_4906 ?_
  refine w_a f_420_4907 ?_
  refine w_a f_420_4908 ?_
  refine n_m (fun h => ?_) h
  exact w_c (ks := [0, 1, 2, 3, 4]) f_420_4909 rfl rfl h
set_option maxRecDepth 10000 in
set_option maxHeartbeats 4000000 in
theorem s_420_4912 {Lx : Nat} {I : Mi} {L : Ml} {e : Nat} {Q : Kq} {x4 : Int32} {r0 : Int32} {r : Int32} (h :
    (if r0 = r then
     Wp 420 4917 [(0, .ref 0), (1, .ref 1), (2, .ref 58), (3, .ref 70), (4, .int x4)] [] (gE Lx) I L e Q
    else
     Q (.inl (some (.int (Int32.ofInt 0)))) (gE Lx) I L e)) :
    Wp 420 4912 [(0, .ref 0), (1, .ref 1), (2, .ref 58), (3, .ref 70), (4, .int x4)] [.int r, .int r0] (gE Lx) I L e Q := by
  refine w_a f_420_4912 ?_
  refine i_m (fun h => ?_) (fun h => ?_) h
  · exact w_n (ks := [0, 1, 2, 3, 4]) rfl h
  · refine w_a f_420_4915 ?_
    refine w_a f_420_4916 ?_
    exact h
set_option maxRecDepth 10000 in
set_option maxHeartbeats 4000000 in
theorem s_420_4917 {Lx : Nat} {I : Mi} {L : Ml} {e : Nat} {Q : Kq} {x4 : Int32} (h :
    Wp 420 23 [(0, .ref 0), (1, .ref 1), (2, .ref 58), (3, .ref 70), (4, .int (x4 + Int32.ofInt 10))] [] (gE Lx) I L e Q) :
    Wp 420 4917 [(0, .ref 0), (1, .ref 1), (2, .ref 58), (3, .ref 70), (4, .int x4)] [] (gE Lx) I L e Q := by
  refine w_a f_420_4917 ?_
  refine w_a (ls := [(4, .int (x4 + Int32.ofInt 10)), (0, .ref 0), (1, .ref 1), (2, .ref 58), (3, .ref 70)]) f_420_4920 ?_
  exact w_n (ks := [0, 1, 2, 3, 4]) rfl h
