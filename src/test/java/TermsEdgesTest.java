import java.util.Arrays;
import java.util.function.ToIntFunction;

/** The boundary cases that the sentences of the Terms, parts 1 to 6, name, one test a sentence. */
public final class TermsEdgesTest {
    private static final int EK = 0;
    private static final int DK = 1;
    private static final int TEXT = 2;
    private static final int SECRET = 3;
    private static final int OUT = 4;
    private static final int TAPE = 5;

    /** Of each hash: around none, one RATE, two, as many as go into a TAPE, and a full TAPE. */
    private static final int[] RATES = {136, 72, 168, 136};
    private static final int[][] LENGTHS = {
        {0, 135, 136, 137, 271, 272, 273, 3943, 3944, 4000},
        {0, 71, 72, 73, 143, 144, 145, 3959, 3960, 4000},
        {0, 167, 168, 169, 335, 336, 337, 3863, 3864, 4000},
        {0, 135, 136, 137, 271, 272, 273, 3943, 3944, 4000}
    };

    /** Of the row 3, 10, 17, .. of that many BYTES: the first 32 told. From Python's hashlib. */
    private static final String[][] KNOWN = {
        {
            "a7ffc6f8bf1ed76651c14756a061d662f580ff4de43b49fa82d80a4b80f8434a",
            "d9dcf1f98e49a79b0643a9e68fef48079ff8777c5e7e7f93469ded65f192ac71",
            "743bd32e775ac7387a57d4d574c89ddef5ebcb08bb5cc6b88c55a27b5035cc45",
            "01d47e8d6dce6e3dcbf1baa6f845b6ace4ef74bd17da8176ecc49bc35dbe5d21",
            "20bf2d2a8b462cf032927768963867773b04bcfdbf1419d1ac06aa23637e5b19",
            "ddeb5151c079739970e780e6257d0c4d52d83bf82c6aa8d47d5195530b5d5f4b",
            "ca74f68cfcda3bbd9068ae31dd3156e6df046aeb68e3176e4e17bf1557174553",
            "5f5925ca0eb344b8a82f9acb4fd3c227f36596b8d8be83874744e03d4b52a7a6",
            "aa35739e1d457f1636d0f941a116117396a0d3dbbfa902b0470bc307837efd11",
            "515aeecbcc06408e4bd9e72b8545b22edef45b56ebd63f9c2ce9d71cfe204a91"
        },
        {
            "a69f73cca23a9ac5c8b567dc185a756e97c982164fe25859e0d1dcc1475c80a6",
            "a02d5795bffd44cb0ac3cc3401ae89056b8017242eaf7e802033e974672ce794",
            "2ec0da5ff440c192d33033c4257eb39dcbd27edd7e41b5ac8db9daf13db501a2",
            "d26d1f9fc91b1d6c31405cc4a546f246fa7777f698d956c26a15170bccdd696a",
            "d610c9973ce4c1f18ce6f7358279f05c02f0aec6dc704cc4fd4957dec3276950",
            "c6b8908e7b60f09ed38ffaf0ff9d6f3edd53ce3140076fc947bd3962c79c64d8",
            "690001d79106dc9e4b2475e454689a0ee87d454084911cbf2db4135beedc67db",
            "51273c60ebf5875093a3d35864f54dd97b443505ff4004c3d69b419a1269941b",
            "f41f9e1cf5762bd2acbd29c0f98a433490a61176fbb64b769f16c0d9cac4c972",
            "067528215cb0b5410967d11fbafb9ab835a0dab87374b7cccdc804e9eba72c4d"
        },
        {
            "7f9c2ba4e88f827d616045507605853ed73b8093f6efbc88eb1a6eacfa66ef26",
            "bb961bb015521037905f9baf69ce60dd3ba73f6ead09a559c8d8a85e10753bca",
            "d4f73f3b6c4b72d05f45ed1f80b5774409f9cf336fc202bffa42ac38a6d3fbee",
            "30454dd0f630ab1bb8fada554060d54012efdbb8e782d013f83a16af1282ca81",
            "d7b9f9df93b966dae4b874b4ba7c8199f5bddf5cbad40fd713ad555f7596ced7",
            "bcac93c8c1c863cf4dde7427a5ff18bab6095ee9ef873057365539a4b34d9f23",
            "a8953cbd0a39b255b0ce239fc3ff819ce3928cf0d1bd40f04df4b2a4d32cebae",
            "9dd08d53e77fb7eeacc5422a71c639c96814bd0e88446adc264b3563880dd964",
            "68782459b7a000eef531c35704a11dbd3e616db3a5957327c70cd41342f812a1",
            "a62e2d7162274408292587511f168646817d9bcc868c4e086b93dcd903faa67c"
        },
        {
            "46b9dd2b0ba88d13233b3feb743eeb243fcd52ea62b81b82b50c27646ed5762f",
            "0213fc98352f009fafdf8ee1ea36391485a85aa6f6c07a5cd81266d21eb17f9a",
            "c00f43811e5b4a38e14e3c06d8a5ce34115a19cd604ce5bac6c3823b76046d5c",
            "3c983983487bcbe74feba53b35bb1e05812379cb4116d9761f78d2ce3177866e",
            "bcb97927f18cf6a655d69f2eae4345f8899213b35283d8fc5bca40dca12fdc1c",
            "fbb7df100461f5db3224c3b715603b5a52f92bd0f761d9361d4aa0613d47033b",
            "d01f8849ec840a934bacdae9e04bde8a676d6fbe4751deb78ac32ba288476271",
            "49893a7f913433404b633ae4dd925a42443dc06e1b04c8732a4a62dcbd93512a",
            "c68191830a4bf2aaf9239e5c7380da66893c61ebf14e9e288416aa396c182ea2",
            "a6ee25080f3a88be9e06e504e86e23d0a197c7d898b7edf7b181ed4f0afffe5e"
        }
    };

    private final Edges edges = new Edges("TermsEdgesTest");

    public static void main(String[] args) {
        TermsEdgesTest test = new TermsEdgesTest();
        test.bytes();
        test.bits();
        test.tapeOf4000();
        test.spongeOfWholeRates();
        test.spongeTellsBeyondTheRate();
        test.noiseBeyondTheRate();
        test.numbersModulo();
        test.ringTurnsRound();
        test.squaresOfPairs();
        test.backUndoes();
        test.compressed();
        test.stretched();
        test.encoded();
        test.decoded();
        test.sampleBelow3329();
        test.sampleEnds();
        test.sampleAtBound();
        test.noiseAsFarAsEta();
        test.sets();
        test.setAtFirst();
        test.eta1();
        test.privateKeyHoldsAll();
        test.secretOfRefusal();
        test.edges.finish();
    }

    // ---- part 1

    private void bytes() {
        edges.sentence("Terms 1", "BYTES are 0 .. 255.");
        Run run = edges.fresh();
        run.bytes(Rows.counting(0, 256));
        for (int i = 0; i < 256; i++) {
            edges.is(run.at(TAPE, i), i);
        }
    }

    private void bits() {
        edges.sentence("Terms 1",
                "Of a row of BYTES the BITS are those of the first one, the lowest first, then those of the next one.");
        for (int bit : new int[] {0, 1, 7, 8, 15, 16, 247, 248, 255}) {
            Run run = edges.fresh();
            run.bytes(new byte[32]);
            run.alter(bit / 8, 1 << bit % 8);
            edges.is(run.decode(0, 1), 256);
            for (int i = 0; i < 256; i++) {
                edges.is(run.number(0, i), i == bit ? 1 : 0);
            }
            run.encode(0, 1);
            for (int i = 0; i < 32; i++) {
                edges.is(run.at(OUT, i), i == bit / 8 ? 1 << bit % 8 : 0);
            }
        }
    }

    private void tapeOf4000() {
        edges.sentence("Terms 1", "THE TAPE has at most 4000.");
        Run run = edges.fresh();
        for (int i = 1; i <= 200; i++) {
            edges.is(run.feed(i, i, i, i, i), 20 * i);
        }
        edges.is(run.length(TAPE), 4000);
        edges.is(run.at(TAPE, 3999), 200);
        edges.leavesAll(-1, () -> run.feed(1, 1, 1, 1, 1));
        edges.is(run.at(TAPE, 4000), -1);
        edges.is(run.alter(3999, 1), 1);
        edges.is(run.alter(4000, 1), 0);
    }

    // ---- part 2

    private void spongeOfWholeRates() {
        edges.sentence("Terms 2", "what is left (fewer than r, perhaps none), then the BITS of the SUFFIX, then a BIT 1, 0s, and as the last BIT of r BYTES a 1, likewise");
        for (int what = 0; what <= 3; what++) {
            for (int n = 0; n < LENGTHS[what].length; n++) {
                Run run = edges.fresh();
                run.bytes(Rows.mixed(LENGTHS[what][n]));
                edges.is(run.hash(what, 32), what == 1 ? 64 : 32);
                String told = run.hex(OUT).substring(0, 64);
                edges.is("hash " + what + " of " + LENGTHS[what][n] + " BYTES", told, KNOWN[what][n]);
            }
        }
    }

    private void spongeTellsBeyondTheRate() {
        edges.sentence("Terms 2", "what is told are the first r BYTES of the state, after the ROUNDS again the next r, and so on.");
        // Of the row 3, 10, .. 66: a place and the BYTE that is told there. From Python's hashlib.
        int[][][] known = {
            {{0, 26}, {167, 104}, {168, 81}, {335, 91}, {336, 184}, {503, 61}, {504, 150}, {839, 120}, {840, 113}, {998, 30}, {999, 97}},
            {{0, 251}, {135, 5}, {136, 123}, {271, 5}, {272, 129}, {407, 119}, {408, 17}, {679, 179}, {680, 230}, {998, 225}, {999, 236}}
        };
        for (int what = 2; what <= 3; what++) {
            int rate = RATES[what];
            for (int n : new int[] {1000, 2 * rate + 1, 2 * rate, rate + 1, rate, rate - 1, 1}) {
                Run run = edges.fresh();
                run.bytes(Rows.mixed(10));
                edges.is(run.hash(what, n), n);
                for (int[] each : known[what - 2]) {
                    edges.is(run.at(OUT, each[0]), each[0] < n ? each[1] : -1);
                }
            }
        }
    }

    private void noiseBeyondTheRate() {
        edges.sentence("Terms 2", "SHAKE256 of the 32 BYTES s and the BYTE b, 64 eta BYTES.");
        // Of eta 3 NUMBER 181 has its BITS on both sides of the RATE of 136. From Python's hashlib.
        int[][] known = {{0, 1}, {1, 1}, {2, 0}, {3, 2}, {251, 0}, {252, 3328}, {254, 1}, {255, 3328}};
        Run run = edges.fresh();
        run.bytes(Rows.mixed(32));
        run.noise(0, 2, 0);
        for (int[] each : known) {
            edges.is(run.number(0, each[0]), each[1]);
        }
        int[][] knownOf3 = {
            {0, 2}, {1, 3327}, {178, 3328}, {179, 3327}, {180, 1}, {181, 0}, {182, 3328}, {183, 1}, {184, 3327}, {250, 3}, {254, 1}, {255, 3328}
        };
        run.bytes(Rows.mixed(32));
        run.noise(0, 3, 0);
        for (int[] each : knownOf3) {
            edges.is(run.number(0, each[0]), each[1]);
        }
        run.bytes(Rows.eightTimes(51));
        run.noise(0, 3, 0);
        edges.is(run.number(0, 181), 3);
        run.bytes(Rows.eightTimes(98));
        run.noise(0, 3, 0);
        edges.is(run.number(0, 181), 3326);
    }

    // ---- part 3

    private void numbersModulo() {
        edges.sentence("Terms 3", "each 0 .. 3328; sums and products are modulo 3329.");
        int[] numbers = {0, 1, 2, 1664, 1665, 3327, 3328};
        for (int f : numbers) {
            for (int g : numbers) {
                Run run = edges.fresh();
                run.put(0, 0, f);
                run.put(1, 0, g);
                run.pairs(0, 1, 2);
                edges.is(run.number(2, 0), f * g % 3329);
                edges.is(run.number(2, 1), 0);
                run.add(0, 1, 1);
                edges.is(run.number(0, 0), (f + g) % 3329);
                run.add(0, 1, -1);
                edges.is(run.number(0, 0), f);
                run.add(1, 0, -1);
                edges.is(run.number(1, 0), (g - f + 3329) % 3329);
            }
        }
        Run run = edges.fresh();
        for (int i = 0; i < 256; i++) {
            run.put(0, i, 3328);
        }
        // -(1 + X + .. + X^255), squared and modulo X^256 + 1: NUMBER i is i + 1 less 255 - i.
        run.forward(0);
        run.pairs(0, 0, 1);
        run.back(1);
        int[] product = run.picture().polynomial(1);
        for (int i = 0; i < 256; i++) {
            edges.is("NUMBER " + i, product[i], (2 * i - 254 + 3329) % 3329);
        }
    }

    private void ringTurnsRound() {
        edges.sentence("Terms 3", "As such it stands for f(0) + f(1) X + .. + f(255) X^255 modulo X^256 + 1");
        int[][] powers = {{0, 0}, {0, 255}, {1, 254}, {1, 255}, {128, 127}, {128, 128}, {255, 254}, {255, 255}};
        for (int[] each : powers) {
            Run run = edges.fresh();
            run.put(0, each[0], 1);
            run.put(1, each[1], 1);
            run.forward(0);
            run.forward(1);
            run.pairs(0, 1, 2);
            run.back(2);
            int[] want = new int[256];
            int sum = each[0] + each[1];
            want[sum % 256] = sum < 256 ? 1 : 3328;
            edges.polynomialIs(2, want);
        }
    }

    private void squaresOfPairs() {
        edges.sentence("Terms 3", "the i-th one modulo X^2 - 17^(2 R(i) + 1), R(i) being the number i, 0 .. 127, with its seven BITS the other way round.");
        int[][] known = {{0, 17}, {1, 3312}, {2, 2761}, {3, 568}, {63, 2688}, {64, 1584}, {126, 2154}, {127, 1175}};
        Run run = edges.fresh();
        for (int i = 0; i < 128; i++) {
            run.put(0, 2 * i + 1, 1);
        }
        run.pairs(0, 0, 1);
        for (int[] each : known) {
            edges.is(run.number(1, 2 * each[0]), each[1]);
            edges.is(run.number(1, 2 * each[0] + 1), 0);
        }
        int[] squares = run.picture().polynomial(1);
        for (int i = 0; i < 128; i++) {
            edges.is("the square of pair " + i, squares[2 * i], Fips.square(i));
        }
        // FORWARD has the same squares: of X^2 each pair is its own one.
        Run power = edges.fresh();
        power.put(0, 2, 1);
        power.forward(0);
        for (int i = 0; i < 256; i++) {
            edges.is(power.number(0, i), squares[i]);
        }
    }

    private void backUndoes() {
        edges.sentence("Terms 3", "BACK (NTT^-1) undoes it.");
        for (int value : new int[] {0, 1, 3328}) {
            Run run = edges.fresh();
            for (int i = 0; i < 256; i++) {
                run.put(3, i, value);
            }
            int[] before = run.picture().polynomial(3);
            run.forward(3);
            run.back(3);
            edges.polynomialIs(3, before);
            run.back(3);
            run.forward(3);
            edges.polynomialIs(3, before);
        }
        Run one = edges.fresh();
        one.put(0, 0, 1);
        one.forward(0);
        for (int i = 0; i < 256; i++) {
            edges.is(one.number(0, i), 1 - i % 2);
        }
    }

    private void compressed() {
        edges.sentence("Terms 3",
                "of a NUMBER x the whole number nearest to x times 2^d divided by 3329 (of two the greater one; as it is it is never between two), modulo 2^d.");
        // By d: the first x that is nearest to 1, and the first that is nearest to 2^d itself.
        int[] ones = {833, 417, 209, 105, 53, 27, 14, 7, 4, 2};
        int[] tops = {2497, 2913, 3121, 3225, 3277, 3303, 3316, 3323, 3326, 3328};
        for (int n = 1; n <= 10; n++) {
            int d = n;
            int one = ones[d - 1];
            int top = tops[d - 1];
            int[][] cases = {{0, 0}, {one - 1, 0}, {one, 1}, {top - 1, (1 << d) - 1}, {top, 0}, {3328, 0}};
            numbersBecome(cases, run -> run.press(0, d));
        }
        // Of d 11 no x is so near to 2^11.
        numbersBecome(new int[][] {{0, 0}, {1, 1}, {2, 1}, {3327, 2047}, {3328, 2047}}, run -> run.press(0, 11));
    }

    private void stretched() {
        edges.sentence("Terms 3",
                "of y, 0 .. 2^d - 1, the whole number nearest to y times 3329 divided by 2^d (of two the greater one).");
        // By d: y 1, the one below the middle, and the last; in the middle it is 1664.5, so 1665.
        int[] ones = {1665, 832, 416, 208, 104, 52, 26, 13, 7, 3, 2};
        int[] belows = {0, 832, 1248, 1456, 1560, 1612, 1638, 1651, 1658, 1661, 1663};
        int[] lasts = {1665, 2497, 2913, 3121, 3225, 3277, 3303, 3316, 3322, 3326, 3327};
        for (int n = 1; n <= 11; n++) {
            int d = n;
            int middle = 1 << d - 1;
            int last = 2 * middle - 1;
            int[][] cases = {{0, 0}, {1, ones[d - 1]}, {middle - 1, belows[d - 1]}, {middle, 1665}, {last, lasts[d - 1]}, {last + 1, 0}};
            numbersBecome(cases, run -> run.stretch(0, d));
        }
    }

    /** Each case is a NUMBER, which stands at both ends of POLYNOMIAL 0, and what it becomes. */
    private void numbersBecome(int[][] cases, ToIntFunction<Run> call) {
        Run run = edges.fresh();
        for (int i = 0; i < cases.length; i++) {
            run.put(0, i, cases[i][0]);
            run.put(0, 255 - i, cases[i][0]);
        }
        edges.is(call.applyAsInt(run), 1);
        String done = run.lastCall();
        for (int i = 0; i < cases.length; i++) {
            edges.is(done + " of " + cases[i][0], run.number(0, i), cases[i][1]);
            edges.is(done + " of " + cases[i][0] + " at the end", run.number(0, 255 - i), cases[i][1]);
        }
    }

    private void encoded() {
        edges.sentence("Terms 3", "the d lowest BITS of each NUMBER, the lowest first, one NUMBER behind the other, as BYTES: 32 d of these.");
        for (int d = 1; d <= 12; d++) {
            // 2^d, where a NUMBER can be so great, has none of the d lowest BITS; 2^d - 1 has all.
            int none = d < 12 ? 1 << d : 0;
            int all = d < 12 ? (1 << d) - 1 : 0xCFF;
            Run run = edges.fresh();
            run.put(0, 0, all);
            run.put(0, 1, none);
            run.put(0, 254, none);
            run.put(0, 255, all);
            edges.is(run.encode(0, d), 32 * d);
            for (int i = 0; i < 32 * d; i++) {
                int want = 0;
                for (int bit = 8 * i; bit < 8 * i + 8; bit++) {
                    int place = bit / d;
                    boolean one = (place == 0 || place == 255) && (all >> bit % d & 1) == 1;
                    want |= (one ? 1 : 0) << bit % 8;
                }
                edges.is(run.at(OUT, i), want);
            }
        }
    }

    private void decoded() {
        edges.sentence("Terms 3", "DECODED by d: the other way round; of d 12 modulo 3329.");
        int[] groups = {0, 3328, 3329, 3330, 4095};
        int[] wants = {0, 3328, 0, 1, 766};
        for (int n = 0; n < groups.length; n++) {
            Run run = edges.fresh();
            run.bytes(new byte[384]);
            // The first two NUMBERS and the last two.
            for (int start : new int[] {0, 381}) {
                run.alter(start, groups[n]);
                run.alter(start + 1, groups[n] >> 8 | groups[n] << 4);
                run.alter(start + 2, groups[n] >> 4);
            }
            edges.is(run.decode(2, 12), 256);
            for (int i : new int[] {0, 1, 254, 255}) {
                edges.is(run.number(2, i), wants[n]);
            }
            edges.is(run.number(2, 2), 0);
            edges.is(run.number(2, 253), 0);
        }
        for (int d = 1; d <= 11; d++) {
            byte[] ones = new byte[32 * d];
            Arrays.fill(ones, (byte) 255);
            Run run = edges.fresh();
            run.bytes(ones);
            edges.is(run.decode(2, d), 256);
            int[] want = new int[256];
            Arrays.fill(want, (1 << d) - 1);
            edges.polynomialIs(2, want);
        }
    }

    // ---- part 4

    private void sampleBelow3329() {
        edges.sentence("Terms 4", "x, then y, if below 3329, is the next NUMBER");
        // eightTimes(n) has, before its 256th NUMBER, this x or y; then the place of the next NUMBER
        // and what it is: the group itself, or one behind it. From Python's hashlib.
        int[][] known = {
            // x: 0, 3327, 3328, 3329, 3330, 4095
            {4, 201, 0}, {8, 238, 3327}, {57, 216, 3328}, {85, 70, 1378}, {27, 162, 1269}, {9, 104, 726},
            // y: likewise
            {23, 115, 0}, {11, 145, 3327}, {6, 137, 3328}, {44, 170, 2436}, {21, 251, 3102}, {41, 89, 860}
        };
        for (int[] each : known) {
            Run run = edges.fresh();
            run.bytes(Rows.eightTimes(each[0]));
            run.sample(0, 0, 0);
            edges.is(run.number(0, each[1]), each[2]);
            run.lookAtAll();
        }
    }

    private void sampleEnds() {
        edges.sentence("Terms 4", "until there are 256 (a y behind the 256th is none).");
        // eightTimes(n), ROUNDS and the last two NUMBERS: the 256th is an x with a y below 3329
        // behind it; an x with a greater one; a y. From Python's hashlib.
        int[][] known = {{2, 160, 2001, 1068}, {0, 159, 355, 2067}, {1, 150, 2187, 2982}};
        for (int[] each : known) {
            for (int n = 0; n <= 3; n++) {
                int p = n;
                Run run = edges.full(3);
                edges.tape(Rows.eightTimes(each[0]));
                edges.changesOnly(each[1], () -> run.sample(p, 0, 0), TAPE, Picture.POLYNOMIAL + p);
                edges.is(run.number(p, 254), each[2]);
                edges.is(run.number(p, 255), each[3]);
            }
        }
    }

    private void sampleAtBound() {
        edges.sentence("Terms 4", "if there are not 256 behind BOUND ROUNDS (280 at first, as FIPS 203's Appendix B has it; 1 .. 280) the sample is LONG, and there is none.");
        // Ends with an x and a y behind it, with an x alone, with a y; the shortest, the longest.
        int[][] known = {{2, 160}, {0, 159}, {1, 150}, {842818, 139}, {830271, 181}};
        for (int[] each : known) {
            Run run = edges.full(3);
            for (int bound : new int[] {1, each[1] - 1}) {
                run.bound(bound);
                edges.tape(Rows.eightTimes(each[0]));
                edges.leavesAllButTape(-2, () -> run.sample(1, 0, 0));
            }
            for (int bound : new int[] {each[1], each[1] + 1, 280}) {
                run.bound(bound);
                edges.tape(Rows.eightTimes(each[0]));
                edges.is(run.sample(1, 0, 0), each[1]);
            }
        }
    }

    private void noiseAsFarAsEta() {
        edges.sentence("Terms 4", "f(i) is the sum of BITS 2 eta i .. 2 eta i + eta - 1 less that of BITS 2 eta i + eta .. 2 eta i + 2 eta - 1.");
        // eta, eightTimes(n), a place and the NUMBER there: eta and -eta, first and last. From
        // Python's hashlib.
        int[][] known = {
            {2, 2, 0, 2}, {2, 11, 0, 3327}, {2, 17, 255, 2}, {2, 54, 255, 3327},
            {3, 12, 0, 3}, {3, 66, 0, 3326}, {3, 1, 255, 3}, {3, 290, 255, 3326}
        };
        for (int[] each : known) {
            Run run = edges.fresh();
            run.bytes(Rows.eightTimes(each[1]));
            edges.is(run.noise(3, each[0], 0), 256);
            edges.is(run.number(3, each[2]), each[3]);
            for (int number : run.picture().polynomial(3)) {
                edges.is("a NUMBER farther than eta", number > each[0] && number < 3329 - each[0] ? 1 : 0, 0);
            }
            run.lookAtAll();
        }
    }

    // ---- part 5

    private void sets() {
        edges.sentence("Terms 5", "THE SETS: k 2 (eta1 3, eta2 2, du 10, dv 4), 3 (2, 2, 10, 4; at first), 4 (2, 2, 11, 5).");
        int[][] lengths = {{800, 1632, 768}, {1184, 2400, 1088}, {1568, 3168, 1568}};
        for (int k = 2; k <= 4; k++) {
            Run run = edges.withText(k);
            for (int what = 0; what <= 2; what++) {
                edges.is(run.length(what), lengths[k - 2][what]);
            }
            edges.is(run.length(SECRET), 32);
        }
        for (int k : new int[] {1, 5}) {
            edges.is(edges.fresh().choose(k), -1);
        }
    }

    private void setAtFirst() {
        edges.sentence("Terms 5", "at first");
        Run first = edges.fresh();
        first.bytes(Rows.counting(0, 64));
        edges.is(first.make(), 1184);
        edges.withKeys(3);
        edges.rowIs(DK, first.picture().bytes(DK));
    }

    private void eta1() {
        edges.sentence("Terms 5", "NOISE of eta1 from PRF of sigma, i");
        for (int k = 2; k <= 4; k++) {
            int eta = k == 2 ? 3 : 2;
            for (int i = 0; i < k; i++) {
                // POLYNOMIAL i of the inner key, brought BACK, is NOISE that goes just as far as eta1.
                Run run = edges.withKeys(k);
                edges.tape(Fips.part(run.picture().bytes(DK), 384 * i, 384));
                run.decode(0, 12);
                run.back(0);
                boolean least = false;
                boolean most = false;
                for (int number : run.picture().polynomial(0)) {
                    edges.is("a NUMBER farther than eta1", number > eta && number < 3329 - eta ? 1 : 0, 0);
                    most |= number == eta;
                    least |= number == 3329 - eta;
                }
                edges.is("NUMBERS as far as eta1", most && least ? 1 : 0, 1);
            }
        }
    }

    // ---- part 6

    private void privateKeyHoldsAll() {
        edges.sentence("Terms 6", "DK the inner key, EK, H of EK, z: 768 k + 96 BYTES.");
        for (int k = 2; k <= 4; k++) {
            Run run = edges.withKeys(k);
            byte[] dk = run.picture().bytes(DK);
            edges.is("how many BYTES", dk.length, 768 * k + 96);
            edges.rowIs(EK, Fips.part(dk, 384 * k, 384 * k + 32));
            run.take(EK);
            run.hash(0, 0);
            edges.rowIs(OUT, Fips.part(dk, 768 * k + 32, 32));
            for (int i = 0; i < 32; i++) {
                edges.is(run.at(DK, 768 * k + 64 + i), 32 + i);
            }
        }
    }

    private void secretOfRefusal() {
        edges.sentence("Terms 6", "if m LOCKED with the public key and r is the TEXT the SECRET is K, else J of z and the TEXT.");
        for (int k = 2; k <= 4; k++) {
            Run run = edges.withText(k);
            String wrapped = run.hex(SECRET);
            edges.is(run.unwrap(), 1);
            edges.is("K", run.hex(SECRET), wrapped);
            int last = run.length(TEXT) - 1;
            run.take(TEXT);
            run.alter(last, run.at(TAPE, last) ^ 128);
            run.load(TEXT);
            edges.is(run.unwrap(), 0);
            edges.rowIs(SECRET, Fips.shake256(32, Rows.counting(32, 32), run.picture().bytes(TEXT)));
        }
    }
}
