/** Promise 14: hash. */
public final class HashTest {
    private static final int LOW = Integer.MIN_VALUE;
    private static final int HIGH = Integer.MAX_VALUE;

    /**
     * Of the row 3, 10, 17, .. of so many BYTES: SHA3-256, SHA3-512, and SHA3-256 of 1000 BYTES of
     * SHAKE128 and of SHAKE256. From Python's hashlib.
     */
    private static final int[] LENGTHS = {0, 1, 71, 72, 135, 136, 167, 168, 272};
    private static final String[][] KNOWN = {
        {
            "a7ffc6f8bf1ed76651c14756a061d662f580ff4de43b49fa82d80a4b80f8434a",
            "a69f73cca23a9ac5c8b567dc185a756e97c982164fe25859e0d1dcc1475c80a615b2123af1f5f94c11e3e9402c3ac558f500199d95b6d3e301758586281dcd26",
            "4a0114f96eff74f864206cc3dbbade4d666c75268d17211121d2ae385bae11cc",
            "4af3c8f245b2c60ddb544450f7b4fdf926a5fee5d05dba4f2d1a6c9caad22155"
        },
        {
            "e3ed56bd086d8958483a12734fa0ae7f5c8bb160ef9092c67e82ed9b19e4c7b2",
            "a63f9712aadceb0fe16f1881719a802294830fa1f7a0e58ff26a45a814309961c5007f43f4e224a82d3f538a6c8af7d87ec71fb6661bfac0dc0cd9367ddb04ce",
            "d03cb1ba1c9f018a9154d8d9b8434466c0deff3a4d7ab19e6ba67cf1551a2181",
            "ab7710c98652ee31b21ad87c16e9ebc57206b9f2e36422444c60335334f9454e"
        },
        {
            "254f2ac1df8eae4233c0c2fe74a03331b856518800936943cdbe57d7d224f224",
            "a02d5795bffd44cb0ac3cc3401ae89056b8017242eaf7e802033e974672ce7945811760c3b0d9578bc51bf90c364636ac87cda9b4f3e45620ea9c030421e9d86",
            "9ee9ca5ff5f754d3b4be0919a497717dd5505cae7f49bc7ad66dc985fc953829",
            "fd14c4c534f7d6f8a0d9f3c2aa07c4f8b643bb9603b877326efe2697c74b31b1"
        },
        {
            "f4bb95e698a2c13bd27f089f3762076daa40b629dc5d7ec53dbe163fca4a4bf3",
            "2ec0da5ff440c192d33033c4257eb39dcbd27edd7e41b5ac8db9daf13db501a2ef938151aaddd82f600335654f77512cbcc926ec5abb05b79282ec716d685618",
            "947dedab0d68481cf3d569a38dd88c274f0963ed10e35fcfc010033288882c9b",
            "7c240303b1fe1ce3a0d392e8c4caa1d32117597c5e122d26519d50ab302f4473"
        },
        {
            "d9dcf1f98e49a79b0643a9e68fef48079ff8777c5e7e7f93469ded65f192ac71",
            "9e9d81e346cf9a62dc4bda518e4096db553188368da1535eaa441982b98d399c0c8f0136f987886b94d1770387e07b276660317ccb66884cc7427550b7780cd4",
            "3521db7cfaf4a5b7f17d1ab145b920be81f597c28835d7bcbc5854bb8ac9f437",
            "9a1d2f6a1c79da659b2e9f4b1ca34ffe326eac932409683969010966a290e79c"
        },
        {
            "743bd32e775ac7387a57d4d574c89ddef5ebcb08bb5cc6b88c55a27b5035cc45",
            "62c81b78426786e5a5d431082d98857c7e6b1988fd721478386233be5c19731cea3944dc24e192fb976e422d8bd31524c35026e615ab54c31a58ab772abfe6d7",
            "665122ba982caf1f723b834500e8cea01ed9d3129c4ce6a3e443e944b326a394",
            "3adf44d0c1db05de4211e3445882857903da17f9118b1d0bcf143ba9cc08a81d"
        },
        {
            "684bf83317ea400f033de352516c168261086092de3a12b6478a20f870a18096",
            "f630f6e4fb09197b8d2503268c3fa8c5e637d7c991b7ee79d7e12ba5cc6e53f27f62f643df5fd6d254f515bcbe687b6ab9e442ffbad82288f026d6cf0645ffc6",
            "cb7ed2e31544b732f25c64070fc30c63702ae3e6bc0dcdab0ca8a23b361eba84",
            "0477df796ac63ffcb9a2707206c4bc16eaf350a51d1e8abdf8cdcde548934b40"
        },
        {
            "a5a267be792383677005e1628c1c16a64e0c4e2c9ce096287d389c58706a86d1",
            "460d5cc545a8c466031bb9002635167603da38b2496544508b5af2f123c33feb690a5b4c442ed89191687f0f1b9dddc7ff343f148f306f85c68e1ce3c8a68b8c",
            "d35d20602b61343d3105fe994bae8bc2eab7b1c85773fab89df9f23bd907c3c1",
            "07bc9e8f9637e026dcfa767b5540f28bef2d9dae9e049eb9d144091c47ef7a6f"
        },
        {
            "ddeb5151c079739970e780e6257d0c4d52d83bf82c6aa8d47d5195530b5d5f4b",
            "441ecd94cc25b54465108dd7dcd86e26d59089d9abd85d7c6d1ba0f8007ff2a4b91ec2cc51ed7fa43a312af704a04e09b07782a0ca1798f4e9c45e6360008483",
            "8455a28ce9da994fb7066a500c4875f9288a40486581a14e8012af83d900c201",
            "14713f3f749a6090f35f51cfbc144da0ac2e485f7e5a80be1720a4bd1fb83f22"
        }
    };

    private final Due due = new Due("HashTest");

    public static void main(String[] args) {
        HashTest test = new HashTest();
        test.known();
        test.lengthsAroundTheRates();
        test.manyTold();
        test.longTape();
        test.shortHashesIgnoreN();
        test.refused();
        test.oneBehindTheOther();
        test.due.finish();
    }

    private void known() {
        for (int n = 0; n < LENGTHS.length; n++) {
            String[] known = KNOWN[n];
            Run run = new Run(due, "promise 14, known, " + LENGTHS[n]);
            run.bytes(Rows.mixed(LENGTHS[n]));
            due.is("promise 14: hash(0, ..)", run.hash(0, 0), 32);
            due.is("promise 14: the TAPE is empty", run.length(5), 0);
            due.is("promise 14: SHA3-256", run.hex(4), known[0]);
            run.bytes(Rows.mixed(LENGTHS[n]));
            due.is("promise 14: hash(1, ..)", run.hash(1, 0), 64);
            due.is("promise 14: SHA3-512", run.hex(4), known[1]);
            run.bytes(Rows.mixed(LENGTHS[n]));
            due.is("promise 14: hash(2, 1000)", run.hash(2, 1000), 1000);
            due.is("promise 14: SHAKE128", run.digest(4), known[2]);
            run.bytes(Rows.mixed(LENGTHS[n]));
            due.is("promise 14: hash(3, 1000)", run.hash(3, 1000), 1000);
            due.is("promise 14: SHAKE256", run.digest(4), known[3]);
        }
    }

    private void lengthsAroundTheRates() {
        for (int rate : new int[] {72, 136, 144, 168, 336}) {
            for (int length = rate - 2; length <= rate + 2; length++) {
                for (int what = 0; what <= 3; what++) {
                    Run run = new Run(due, "promise 14, " + what + " of " + length);
                    run.bytes(Rows.mixed(length));
                    run.hash(what, 40);
                    run.lookAtAll();
                }
            }
        }
    }

    private void manyTold() {
        for (int what = 2; what <= 3; what++) {
            for (int n : new int[] {0, 1, 8, 135, 136, 137, 167, 168, 169, 272, 273, 999, 1000}) {
                Run run = new Run(due, "promise 14, " + what + " tells " + n);
                run.bytes(Rows.mixed(10));
                due.is("promise 14: how many", run.hash(what, n), n);
                due.is("promise 14: OUT", run.length(4), n);
                due.is("promise 14: the TAPE is empty", run.length(5), 0);
                run.lookAtAll();
            }
        }
    }

    private void longTape() {
        for (int what = 0; what <= 3; what++) {
            Run run = new Run(due, "promise 14, long, " + what);
            run.bytes(Rows.mixed(4000));
            run.hash(what, 1000);
            run.lookAtAll();
        }
    }

    private void shortHashesIgnoreN() {
        for (int n : new int[] {-1, 0, 1, 31, 1001, LOW, HIGH}) {
            Run run = new Run(due, "promise 14, n " + n);
            run.bytes(Rows.mixed(5));
            due.is("promise 14: hash(0, " + n + ")", run.hash(0, n), 32);
            run.bytes(Rows.mixed(5));
            due.is("promise 14: hash(1, " + n + ")", run.hash(1, n), 64);
            run.lookAtAll();
        }
    }

    private void refused() {
        Run run = new Run(due, "promise 14, refused");
        run.bytes(Rows.mixed(5));
        run.hash(2, 50);
        run.bytes(Rows.mixed(9));
        for (int what : new int[] {-1, 4, 5, LOW, HIGH}) {
            due.is("promise 14: hash(" + what + ", 32)", run.hash(what, 32), -1);
        }
        for (int n : new int[] {-1, 1001, LOW, HIGH}) {
            due.is("promise 14: hash(2, " + n + ")", run.hash(2, n), -1);
            due.is("promise 14: hash(3, " + n + ")", run.hash(3, n), -1);
        }
        due.is("promise 14: the TAPE stays", run.length(5), 9);
        due.is("promise 14: OUT stays", run.length(4), 50);
        run.lookAtAll();
    }

    /** What one hash leaves in the state must not reach the next one. */
    private void oneBehindTheOther() {
        Run run = new Run(due, "promise 14, again");
        for (int what : new int[] {2, 0, 3, 1, 0, 2, 3, 1}) {
            run.bytes(Rows.mixed(11));
            run.hash(what, 30);
            run.at(4, 0);
            run.at(4, 29);
        }
        run.lookAtAll();
    }
}
