import java.util.Arrays;

/**
 * Promises 1 to 10: the sentences that name an edge, each with the calls that bring it about; the sentence stands
 * above its test. What is refused is tried in all states by RefusedCallsTest; here it stands beside what is not.
 */
public final class CallEdgesTest {
    private static final Check CHECK = new Check("CallEdgesTest");
    private static final int LOW = Integer.MIN_VALUE;
    private static final int HIGH = Integer.MAX_VALUE;

    private CallEdgesTest() {
    }

    public static void main(String[] args) {
        newObject();
        madeWithin();
        wantsEach();
        madeAnew();
        allZeros();
        keyHighestFirst();
        nameHighestFirst();
        keyOfOneDeadOrBegun();
        draftOneToEight();
        draftFiveHundred();
        greetEmpty();
        greetOneHundredFifty();
        greetInPlaceOfAnother();
        beginAnswers();
        writeOneToSixty();
        writeStates();
        closeStates();
        tickAnswersNow();
        CHECK.end();
    }

    private static void due(String what, long got, long want) {
        CHECK.due(what, got, want);
    }

    /** Promise 1: "As make(0, 200)." */
    private static void newObject() {
        LossyPair x = new LossyPair();
        LossyPair y = Scenes.make(12);
        y.make(0, 200);
        CHECK.same("1 as made", Snapshot.of(x), Snapshot.of(y));
        for (LossyPair z : new LossyPair[] {x, y}) {
            Pairs.draft(z, new byte[150]);
            z.greet();
            z.begin();
            due("1 no SHARE", z.octet(1, 0, 31) + z.octet(1, 0, 32) + z.octet(1, 0, 33) + z.octet(1, 0, 34), 0);
            z.deliver(1, 0);
            due("1 no COOKIES", z.state(1), 1);
            due("1 MTU 200", z.size(0, 0), 200);
            due("1 the rest", z.size(0, 1), 22 + 8 + 54);
        }
        CHECK.same("1 as made", Snapshot.of(x), Snapshot.of(y));
    }

    /** Promise 2: "IllegalArgumentException: wants is not 0 to 7, or mtu not 100 to 500." */
    private static void madeWithin() {
        LossyPair x = new LossyPair();
        for (int wants : new int[] {LOW, -1, 0, 1, 6, 7, 8, HIGH}) {
            for (int mtu : new int[] {LOW, -100, 0, 99, 100, 101, 499, 500, 501, HIGH}) {
                String what = "2 make(" + wants + ", " + mtu + ")";
                if (wants < 0 || wants > 7 || mtu < 100 || mtu > 500) {
                    CHECK.argument(what, () -> x.make(wants, mtu));
                } else {
                    x.draft(1, 1);
                    x.make(wants, mtu);
                    due(what + " is made", x.draft(1, 1), 1);
                }
            }
        }
        int[][] sizes = {{100, 100}, {101, 101}, {261, 261}, {262, 262}, {499, 262}, {500, 262}};
        for (int[] s : sizes) {
            LossyPair y = Scenes.greeted(0, s[0], 150);
            y.begin();
            y.deliver(1, 0);
            due("2 at most the MTU of " + s[0], y.size(0, 0), s[1]);
        }
    }

    /** Promise 2: "Two sides anew: wants is 1 for COOKIES of the server, and 2 for a SHARE of the client, and 4 for one" */
    private static void wantsEach() {
        for (int wants = 0; wants <= 7; wants++) {
            LossyPair x = Scenes.make(15);
            x.make(wants, 500);
            x.begin();
            due("2 a SHARE of the client, " + wants, Octets.u4At(Pairs.datagram(x, 1, 0), 31) != 0 ? 1 : 0, wants >> 1 & 1);
            x.deliver(1, 0);
            due("2 COOKIES of the server, " + wants, x.octet(0, 0, 6), (wants & 1) != 0 ? 6 : 2);
            if ((wants & 1) != 0) {
                x.deliver(0, 0);
                x.deliver(1, 0);
            }
            due("2 a SHARE of both, " + wants, Octets.u4At(Pairs.datagram(x, 0, 0), 30) != 0 ? 1 : 0, wants >= 6 ? 1 : 0);
            x.deliver(0, 0);
            due("2 OPEN, " + wants, x.state(0), 2);
        }
    }

    /**
     * Promise 2: "Two sides anew"; "Shared KEYS, NAMES and SEEDS are all 0s, no GREETING; an empty net, NOW 0; THE
     * DRAFT is empty."
     */
    private static void madeAnew() {
        for (int scene = 0; scene < Scenes.NAMES.length; scene++) {
            for (int wants : new int[] {0, 1, 6, 7}) {
                String where = "2 make(" + wants + ", 100) from " + Scenes.NAMES[scene] + ": ";
                LossyPair x = Scenes.make(scene);
                Pairs.draft(x, new byte[500]);
                Pairs.ticks(x, 3);
                x.make(wants, 100);
                LossyPair y = new LossyPair();
                y.make(wants, 100);
                CHECK.same(where + "at once", Snapshot.of(x), Snapshot.of(y));
                for (int k : new int[] {-101, -100, -1, 0, 1, 99, 100}) {
                    CHECK.range(where + "no writing", () -> x.gotOctet(1, k, -1));
                    CHECK.range(where + "no writing", () -> x.gotOctet(0, k, 0));
                }
                for (int step = scene % 2; step < 9; step++) {
                    due(where + "step " + step, course(x, step), course(y, step));
                    CHECK.same(where + "behind step " + step, Snapshot.of(x), Snapshot.of(y));
                }
            }
        }
    }

    /** Promise 2, held against the Java library: KEYS, NAMES and SEEDS of 0s, where none was 0 before. */
    private static void allZeros() {
        LossyPair x = Scenes.make(15);
        x.make(0, 500);
        due("2 it begins", x.begin(), 1);
        byte[] hello = Octets.part(Pairs.datagram(x, 1, 0), 14, 75);
        byte[] random = Octets.part(Octets.mac(new byte[8], Octets.of(0, 0, 0)), 0, 16);
        byte[] front = Octets.join(random, new byte[1 + 4 + 8]);
        byte[] early = Octets.mac(new byte[32], new byte[16]);
        byte[] binder = Octets.mac(Octets.expand(early, "binder"), Octets.hash(Octets.of(1, 0, 61), front));
        CHECK.same("2 the client's", hello, Octets.join(front, binder));
        x.deliver(1, 0);
        due("2 the server's KEY and NAME", x.state(1), 1);
        random = Octets.part(Octets.mac(new byte[8], Octets.of(1, 0, 0)), 0, 16);
        CHECK.same("2 the server's SEED", Octets.part(Pairs.datagram(x, 0, 0), 14, 34), Octets.join(random, new byte[4]));
        due("2 no GREETING", x.told(1, 12), 54);
    }

    /** What shows KEYS, NAMES, SEEDS, GREETING, NOW, THE DRAFT, windows, numbers and LIST. */
    private static int course(LossyPair x, int step) {
        switch (step) {
            case 0:
                return x.draft(8, 5) * 100 + x.tick();
            case 1:
                return x.inject(1) * 10 + x.begin();
            case 2:
                return x.tick() + x.tick() + x.tick() + x.tick();
            case 3:
                return x.run(1);
            case 4:
                return x.net(1) > 0 ? x.deliver(1, 0) : -9;
            case 5:
                return x.net(0) > 1 ? x.deliver(0, 0) * 10 + x.tick() : -9;
            case 6:
                return x.run(3);
            case 7:
                return x.draft(8, 6) + (x.state(0) == 2 ? x.write(0) : -9);
            default:
                return x.run(100);
        }
    }

    /** Promise 3: "A side's shared KEY: 8 octets of high, 8 of low, highest first." */
    private static void keyHighestFirst() {
        long[] values = {0, 1, -1, Long.MIN_VALUE, Long.MAX_VALUE, 0x0102030405060708L, 0xfffefdfcfbfaf9f8L};
        for (long high : values) {
            for (long low : values) {
                LossyPair x = new LossyPair();
                x.key(0, high, low);
                x.begin();
                byte[] hello = Pairs.datagram(x, 1, 0);
                byte[] early = Octets.mac(new byte[32], Octets.u8(high), Octets.u8(low));
                byte[] front = Octets.hash(Octets.of(1, 0, 61), Octets.part(hello, 14, 43));
                CHECK.same("3 BINDER by key(0, " + high + ", " + low + ")", Octets.part(hello, 43, 75),
                        Octets.mac(Octets.expand(early, "binder"), front));
            }
        }
    }

    /** Promise 4: "A side's NAME and SEED, 8 octets each, highest first." */
    private static void nameHighestFirst() {
        long[] values = {0, 1, -1, Long.MIN_VALUE, Long.MAX_VALUE, 0x0102030405060708L, 0xfffefdfcfbfaf9f8L};
        for (long value : values) {
            LossyPair x = new LossyPair();
            x.name(0, value, ~value);
            x.name(1, value, 3 * value);
            x.begin();
            byte[] hello = Pairs.datagram(x, 1, 0);
            CHECK.same("4 NAME " + value, Octets.part(hello, 35, 43), Octets.u8(value));
            byte[] random = Octets.mac(Octets.u8(~value), Octets.of(0, 0, 0));
            CHECK.same("4 SEED of the client", Octets.part(hello, 14, 30), Octets.part(random, 0, 16));
            x.deliver(1, 0);
            due("4 the same NAME", x.state(1), 1);
            random = Octets.mac(Octets.u8(3 * value), Octets.of(1, 0, 0));
            CHECK.same("4 SEED of the server", Octets.part(Pairs.datagram(x, 0, 0), 14, 30), Octets.part(random, 0, 16));
        }
    }

    /** Promises 3, 4, 6, 7: "IllegalStateException: the client has begun, or is DEAD." */
    private static void keyOfOneDeadOrBegun() {
        LossyPair served = Scenes.dead(Pairs.ready(0, 500), 1);
        served.key(0, 1, 3);
        served.key(1, 1, 3);
        served.name(0, 1, 3);
        served.name(1, 1, 3);
        due("6 the server alone is DEAD", served.greet(), 0);
        due("7 the server alone is DEAD", served.begin(), 1);
        for (int scene = 0; scene < Scenes.NAMES.length; scene++) {
            LossyPair x = Scenes.make(scene);
            boolean refused = x.state(0) != 0;
            for (int s = 0; s < 2; s++) {
                int side = s;
                CHECK.thrown("3 " + Scenes.NAMES[scene], refused ? IllegalStateException.class : null, () -> x.key(side, 4, 4));
                CHECK.thrown("4 " + Scenes.NAMES[scene], refused ? IllegalStateException.class : null, () -> x.name(side, 4, 4));
            }
            CHECK.thrown("6 " + Scenes.NAMES[scene], refused ? IllegalStateException.class : null, () -> x.greet());
            CHECK.thrown("7 " + Scenes.NAMES[scene], refused ? IllegalStateException.class : null, () -> x.begin());
            CHECK.state("7 behind that", () -> x.begin());
        }
    }

    /** Promise 5: "The n lowest octets of a long, the lowest first, come behind THE DRAFT."; "n is not 1 to 8". */
    private static void draftOneToEight() {
        for (int n : new int[] {LOW, -1, 0, 9, 10, HIGH}) {
            CHECK.argument("5 draft(" + n + ")", () -> new LossyPair().draft(n, 1));
        }
        for (int n = 1; n <= 8; n++) {
            LossyPair x = new LossyPair();
            due("5 the first", x.draft(1, 0xfffffffffffffa00L), 1);
            due("5 draft(" + n + ")", x.draft(n, 0xf8f7f6f5f4f3f2f1L), n + 1);
            x.inject(0);
            due("5 size", x.size(0, 0), n + 1);
            due("5 the lowest of the first", x.octet(0, 0, 0), 0);
            for (int k = 1; k <= n; k++) {
                due("5 octet " + k, x.octet(0, 0, k), 0xf0 + k);
            }
        }
    }

    /** Promise 5: "or there would be more than 500." */
    private static void draftFiveHundred() {
        for (int n = 1; n <= 8; n++) {
            LossyPair x = new LossyPair();
            int many = n;
            Pairs.draft(x, new byte[500 - n]);
            for (int more = n + 1; more <= 8; more++) {
                int beyond = more;
                CHECK.argument("5 " + (500 - n) + " and " + more, () -> x.draft(beyond, -1));
            }
            due("5 just 500", x.draft(n, -1), 500);
            CHECK.argument("5 one more", () -> x.draft(1, -1));
            CHECK.argument("5 " + many + " more", () -> x.draft(many, -1));
            due("5 it can be injected", x.inject(0), 1);
            due("5 500 octets", x.size(0, 0), 500);
            due("5 the last of those before", x.octet(0, 0, 499 - n), 0);
            due("5 it begins anew", x.draft(n, -1), n);
        }
    }

    /** Promise 6: "The GREETING is THE DRAFT, which is empty then. Answers how many octets." */
    private static void greetEmpty() {
        LossyPair x = Pairs.ready(0, 500);
        due("6 none", x.greet(), 0);
        x.draft(1, 5);
        due("6 one", x.greet(), 1);
        due("6 empty then: none again", x.greet(), 0);
        due("6 empty then", x.inject(1), -1);
        x.begin();
        x.deliver(1, 0);
        due("6 no GREETING: SETTINGS has 2 octets", x.told(1, 12), 20 + 2 + 32);
    }

    /** Promise 6: "IllegalArgumentException: THE DRAFT has more than 150." */
    private static void greetOneHundredFifty() {
        for (int many : new int[] {149, 150, 151, 152, 500}) {
            LossyPair x = Pairs.ready(0, 500);
            Pairs.draft(x, new byte[many]);
            if (many > 150) {
                CHECK.argument("6 " + many + " octets", () -> x.greet());
                due("6 THE DRAFT stays", x.inject(0) == 1 ? x.size(0, 0) : 0, many);
            } else {
                due("6 " + many + " octets", x.greet(), many);
                due("6 THE DRAFT is empty", x.inject(0), -1);
            }
            x.begin();
            x.deliver(1, 0);
            due("6 SETTINGS", x.told(1, 12), 54 + (many > 150 ? 0 : many));
        }
    }

    /** Promise 6, greeted again: a longer one, a shorter one, and none take the place of that before. */
    private static void greetInPlaceOfAnother() {
        int[] lengths = {3, 150, 2, 0};
        for (int last = 1; last <= lengths.length; last++) {
            LossyPair x = Pairs.ready(0, 500);
            for (int n = 0; n < last; n++) {
                byte[] greeting = new byte[lengths[n]];
                Arrays.fill(greeting, (byte) (n + 1));
                Pairs.draft(x, greeting);
                x.greet();
            }
            x.begin();
            x.deliver(1, 0);
            int many = lengths[last - 1];
            due("6 the latest one", x.told(1, 12), 54 + many);
            byte[] greeting = new byte[many];
            Arrays.fill(greeting, (byte) last);
            byte[] settings = Octets.join(Octets.u2(500), greeting);
            byte[] record = Octets.sealedRecord(Pairs.secret(x, 1, 1), 2, 0, 22,
                    Octets.fragment(8, settings.length, 1, 0, settings));
            CHECK.same("6 SETTINGS", Octets.part(Pairs.datagram(x, 0, 0), 34, 34 + record.length), record);
        }
    }

    /** Promise 7: "The client BEGINS. Answers how many datagrams are sent." (11: "what would be one more is lost".) */
    private static void beginAnswers() {
        for (int many : new int[] {0, 59, 60}) {
            LossyPair x = Pairs.ready(7, 100);
            for (int i = 0; i < many; i++) {
                Pairs.inject(x, 1, Octets.of(1));
            }
            due("7 sent", x.begin(), 1);
            due("7 in the net", x.net(1), Math.min(60, many + 1));
            due("7 told", x.told(0, 5), 1);
            due("7 it has begun", x.state(0), 1);
            Pairs.loseAll(x);
            Pairs.ticks(x, 4);
            due("7 sent, so it is SENT AGAIN", x.net(1), 1);
        }
    }

    /** Promise 8: "IllegalArgumentException: THE DRAFT has not 1 to 60 octets."; "which is empty then". */
    private static void writeOneToSixty() {
        for (int side = 0; side < 2; side++) {
            for (int many : new int[] {0, 1, 2, 59, 60, 61, 62, 500}) {
                LossyPair x = Pairs.open();
                int from = side;
                Pairs.draft(x, new byte[many]);
                int first = side;
                if (many < 1 || many > 60) {
                    CHECK.argument("8 " + many + " octets", () -> x.write(from));
                    due("8 nothing is sent", x.net(1 - side), 0);
                    due("8 THE DRAFT stays", x.inject(side) == 1 ? x.size(side, 0) : 0, many);
                    x.draft(1, 1);
                    due("8 nor is a number used", x.write(side), first);
                } else {
                    due("8 " + many + " octets", x.write(side), first);
                    due("8 a datagram of its own", x.size(1 - side, 0), 5 + many + 9);
                    due("8 THE DRAFT is empty", x.inject(side), -1);
                    x.run(1);
                    due("22 it is delivered", x.gotOctet(1 - side, 0, -1), many);
                }
            }
        }
    }

    /** Promise 8: "IllegalStateException: it is not OPEN." */
    private static void writeStates() {
        for (int scene = 0; scene < Scenes.NAMES.length; scene++) {
            for (int s = 0; s < 2; s++) {
                LossyPair x = Scenes.make(scene);
                int side = s;
                x.draft(1, 1);
                CHECK.thrown("8 " + Scenes.NAMES[scene] + ", side " + side,
                        x.state(side) == 2 ? null : IllegalStateException.class, () -> x.write(side));
                due("8 THE DRAFT", x.draft(1, 1), x.state(side) == 2 ? 1 : 2);
            }
        }
    }

    /** Promise 9: "IllegalStateException: it is not OPEN." */
    private static void closeStates() {
        for (int scene = 0; scene < Scenes.NAMES.length; scene++) {
            for (int s = 0; s < 2; s++) {
                LossyPair x = Scenes.make(scene);
                int side = s;
                int before = x.state(side);
                int sent = x.told(side, 5);
                CHECK.thrown("9 " + Scenes.NAMES[scene] + ", side " + side,
                        before == 2 ? null : IllegalStateException.class, () -> x.close(side));
                due("9 state", x.state(side), before == 2 ? 3 : before);
                due("9 sent", x.told(side, 5), before == 2 ? sent + 1 : sent);
                CHECK.state("9 once more", () -> x.close(side));
            }
        }
    }

    /** Promise 10: "NOW is one more"; "Answers NOW." */
    private static void tickAnswersNow() {
        LossyPair x = new LossyPair();
        due("10 NOW is 0 at first", x.tick(), 1);
        due("10 one more", x.tick(), 2);
        for (int n = 0; n < 500; n++) {
            x.run(100);
        }
        due("10 far on", x.tick(), 50003);
        x.begin();
        Pairs.ticks(x, 3);
        due("10 a FLIGHT begun far on is not yet SENT AGAIN", x.net(1), 1);
        x.tick();
        due("10 and then it is", x.net(1), 2);
    }
}
