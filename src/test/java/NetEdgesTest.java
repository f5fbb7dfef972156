/**
 * Promises 11 to 24: the sentences that name an edge, each with the calls that bring it about; the sentence stands
 * above its test.
 */
public final class NetEdgesTest {
    private static final Check CHECK = new Check("NetEdgesTest");
    private static final int LOW = Integer.MIN_VALUE;
    private static final int HIGH = Integer.MAX_VALUE;

    private NetEdgesTest() {
    }

    public static void main(String[] args) {
        sixtyInNet();
        oneMoreIsLost();
        flightIntoAFullNet();
        sizes();
        octets();
        deliverFirstAndLast();
        deliverAnswers();
        loseToNone();
        twiceUpToSixty();
        forgeLowestBits();
        injectNone();
        injectEdges();
        runTimes();
        runOnlyWhatIsThere();
        runAnswers();
        states();
        gotCounts();
        latestHundred();
        gotOctetEdges();
        secretNone();
        secretEdges();
        toldEdges();
        firstAlert();
        heardClose();
        CHECK.end();
    }

    private static void due(String what, long got, long want) {
        CHECK.due(what, got, want);
    }

    /** Promise 11: "(At most 60 to each" */
    private static void sixtyInNet() {
        LossyPair x = Pairs.begun(0, 500);
        for (int side = 0; side < 2; side++) {
            for (int many = x.net(side); many < 60; many++) {
                due("11 net(" + side + ")", x.net(side), many);
                due("18 one more", Pairs.inject(x, side, Octets.of(many)), many + 1);
            }
            due("11 at most 60", x.net(side), 60);
            x.draft(1, 77);
            due("18 NONE", x.inject(side), -1);
            due("11 60 yet", x.net(side), 60);
            due("5 THE DRAFT stays", x.draft(7, 0), 8);
            due("11 each side has its own 60", x.net(1 - side), side == 0 ? 1 : 60);
            due("15 one goes", x.lose(side, 30), 59);
            due("18 one comes", x.inject(side), 60);
            due("12 as the last one", x.size(side, 59), 8);
        }
    }

    /** Promise 11: "what would be one more is lost.)" */
    private static void oneMoreIsLost() {
        LossyPair x = Pairs.open();
        for (int n = 0; n < 62; n++) {
            x.draft(1, n);
            due("8 the number goes on", x.write(0), n);
            due("11 in the net", x.net(1), Math.min(60, n + 1));
        }
        due("24 all were sent", x.told(0, 5), 2 + 62);
        due("19 those that are there come", x.run(1), 60);
        due("21 and are delivered", x.got(1), 60);
        due("22 the last of them", x.gotOctet(1, 59, 0), 59);
        x.draft(1, 99);
        due("8 the next number", x.write(0), 62);
        x.run(1);
        due("22 behind the two that were lost", x.gotOctet(1, 60, 0), 99);
    }

    /** Promise 11, of a FLIGHT of four datagrams: the first ones have room. */
    private static void flightIntoAFullNet() {
        for (int room = 0; room <= 5; room++) {
            LossyPair x = Scenes.greeted(0, 100, 150);
            x.begin();
            for (int i = 0; i < 60 - room; i++) {
                Pairs.inject(x, 0, Octets.of(1));
            }
            x.deliver(1, 0);
            due("11 room for " + room, x.net(0), Math.min(60, 64 - room));
            due("24 all four were sent", x.told(1, 5), 4);
            for (int i = 0; i < Math.min(room, 4); i++) {
                due("12 those in order", x.size(0, 60 - room + i), i < 3 ? 100 : 28);
            }
            due("24 none of it is ACKED", x.told(1, 12), 204);
        }
    }

    /** Promise 12: "How many octets the i-th of them has. IndexOutOfBoundsException." */
    private static void sizes() {
        LossyPair x = new LossyPair();
        int[] many = {1, 500, 8, 499};
        for (int m : many) {
            Pairs.inject(x, 1, new byte[m]);
        }
        for (int i = 0; i < many.length; i++) {
            due("12 size(1, " + i + ")", x.size(1, i), many[i]);
        }
        for (int i : new int[] {LOW, -1, 4, 59, 60, HIGH}) {
            CHECK.range("12 size(1, " + i + ")", () -> x.size(1, i));
        }
        CHECK.range("12 an empty net", () -> x.size(0, 0));
        x.lose(1, 0);
        CHECK.range("12 one is gone", () -> x.size(1, 3));
        due("12 the others move up", x.size(1, 0), 500);
    }

    /** Promise 13: "Octet k of the i-th. IndexOutOfBoundsException." */
    private static void octets() {
        LossyPair x = new LossyPair();
        byte[] all = new byte[256];
        for (int k = 0; k < 256; k++) {
            all[k] = (byte) k;
        }
        Pairs.inject(x, 0, all);
        Pairs.inject(x, 0, Octets.of(9));
        for (int k = 0; k < 256; k++) {
            due("13 octet " + k, x.octet(0, 0, k), k);
        }
        for (int k : new int[] {LOW, -1, 256, 499, 500, HIGH}) {
            CHECK.range("13 octet(0, 0, " + k + ")", () -> x.octet(0, 0, k));
        }
        due("13 one octet alone", x.octet(0, 1, 0), 9);
        CHECK.range("13 one octet alone", () -> x.octet(0, 1, 1));
        CHECK.range("13 a datagram more", () -> x.octet(0, 2, 0));
        x.lose(0, 0);
        CHECK.range("13 what was longer is gone", () -> x.octet(0, 0, 1));
    }

    /** Promise 14: "The i-th datagram on its way to a side comes (it is in the net no more)." */
    private static void deliverFirstAndLast() {
        LossyPair x = Scenes.full(new LossyPair());
        for (int i : new int[] {LOW, -1, 60, HIGH}) {
            CHECK.range("14 deliver(0, " + i + ")", () -> x.deliver(0, i));
        }
        due("14 the last", x.deliver(0, 59), 0);
        CHECK.range("14 it is in the net no more", () -> x.deliver(0, 59));
        due("14 the first", x.deliver(0, 0), 0);
        due("12 the second is the first now", x.size(0, 0), 2);
        due("12 the last one now", x.size(0, 57), 59);
        due("24 two came", x.told(0, 0), 2);
        for (int left = 58; left > 0; left--) {
            due("11 net", x.net(0), left);
            x.deliver(0, left / 2);
        }
        due("11 an empty net", x.net(0), 0);
        CHECK.range("14 an empty net", () -> x.deliver(0, 0));
        due("24 all came", x.told(0, 0), 60);
    }

    /** Promise 14: "Answers how many of its records CAME." */
    private static void deliverAnswers() {
        LossyPair x = new LossyPair();
        due("14 none", Pairs.hit(x, 0, Octets.of(0)), 0);
        byte[][] records = new byte[83][];
        for (int n = 0; n < 83; n++) {
            records[n] = Octets.openRecord(26, n, new byte[0]);
        }
        due("14 as many as there can be", Pairs.hit(x, 0, records), 83);
        due("14 all STALE", Pairs.hit(x, 0, records), 0);
        due("14 one of three", Pairs.hit(x, 0, records[82], Octets.openRecord(26, 83, new byte[0]), records[81]), 1);
        due("24 CAME", x.told(0, 4), 84);
    }

    /** Promise 15: "The i-th is lost. Answers how many there are then." */
    private static void loseToNone() {
        LossyPair x = Scenes.full(new LossyPair());
        for (int i : new int[] {LOW, -1, 60, HIGH}) {
            CHECK.range("15 lose(1, " + i + ")", () -> x.lose(1, i));
        }
        due("15 the last", x.lose(1, 59), 59);
        CHECK.range("15 it is gone", () -> x.lose(1, 59));
        due("15 the first", x.lose(1, 0), 58);
        due("12 the second is the first now", x.size(1, 0), 2);
        for (int left = 57; left >= 0; left--) {
            due("15 how many there are then", x.lose(1, 0), left);
        }
        CHECK.range("15 an empty net", () -> x.lose(1, 0));
        due("24 nothing came", x.told(1, 0), 0);
        due("11 the other net stays", x.net(0), 60);
    }

    /** Promise 16: "The i-th is there once more, as the last one; NONE when there are 60." */
    private static void twiceUpToSixty() {
        LossyPair x = new LossyPair();
        CHECK.range("16 an empty net", () -> x.twice(0, 0));
        Pairs.inject(x, 0, Octets.of(5, 6, 7));
        Pairs.inject(x, 0, Octets.of(8));
        for (int many = 3; many <= 60; many++) {
            due("16 how many there are then", x.twice(0, many % 2), many);
            due("12 as the last one", x.size(0, many - 1), x.size(0, many % 2));
        }
        due("16 NONE when there are 60", x.twice(0, 0), -1);
        due("16 NONE when there are 60", x.twice(0, 59), -1);
        CHECK.range("16 none such, full", () -> x.twice(0, 60));
        CHECK.range("16 none such, full", () -> x.twice(0, -1));
        due("11 60 yet", x.net(0), 60);
        x.lose(0, 0);
        due("16 59, and one more", x.twice(0, 58), 60);
    }

    /** Promise 17: "Octet k of the i-th is xor mask (its lowest 8 bits). Answers what it is then." */
    private static void forgeLowestBits() {
        LossyPair x = new LossyPair();
        Pairs.inject(x, 1, Octets.of(0, 0x5a, 255));
        int[] masks = {0, 1, 128, 255, 256, 257, 0x7fffff00, -1, LOW, HIGH, -256};
        int[] octets = {0, 0x5a, 255};
        for (int mask : masks) {
            for (int k = 0; k < 3; k++) {
                octets[k] ^= mask & 255;
                due("17 xor " + mask, x.forge(1, 0, k, mask), octets[k]);
                due("13 what it is then", x.octet(1, 0, k), octets[k]);
            }
        }
        for (int k : new int[] {LOW, -1, 3, HIGH}) {
            CHECK.range("17 forge(1, 0, " + k + ")", () -> x.forge(1, 0, k, 1));
        }
        for (int i : new int[] {LOW, -1, 1, HIGH}) {
            CHECK.range("17 forge(1, " + i + ")", () -> x.forge(1, i, 0, 1));
        }
        CHECK.range("17 an empty net", () -> x.forge(0, 0, 0, 1));
        x.twice(1, 0);
        x.forge(1, 1, 0, 64);
        due("17 the i-th alone", x.octet(1, 0, 0), octets[0]);
    }

    /** Promise 18: "NONE when there are 60, or THE DRAFT is empty." */
    private static void injectNone() {
        LossyPair x = new LossyPair();
        for (int side = 0; side < 2; side++) {
            due("18 THE DRAFT is empty", x.inject(side), -1);
            due("11 nothing is there", x.net(side), 0);
        }
        LossyPair y = Scenes.full(new LossyPair());
        due("18 both", y.inject(0), -1);
        y.draft(1, 3);
        due("18 there are 60", y.inject(0), -1);
        due("18 there are 60", y.inject(1), -1);
        y.deliver(1, 0);
        due("18 to the other side there are 59", y.inject(1), 60);
        due("18 THE DRAFT is empty then", y.inject(1), -1);
        CHECK.range("18 IndexOutOfBoundsException goes first", () -> y.inject(2));
    }

    /** Promise 18: "THE DRAFT, which is empty then, is a datagram on its way to a side"; of 1 and of 500 octets. */
    private static void injectEdges() {
        for (int many : new int[] {1, 100, 101, 499, 500}) {
            LossyPair x = new LossyPair();
            x.make(0, 100);
            byte[] octets = new byte[many];
            octets[many - 1] = 111;
            due("18 inject", Pairs.inject(x, 1, octets), 1);
            due("12 size, whatever the MTU", x.size(1, 0), many);
            due("13 the last", x.octet(1, 0, many - 1), 111);
            due("5 THE DRAFT is empty then", x.draft(1, 0), 1);
            due("24 no side sent it", x.told(0, 5), 0);
        }
    }

    /** Promise 19: "IllegalArgumentException: times is not 0 to 100." */
    private static void runTimes() {
        LossyPair x = Pairs.begun(0, 500);
        for (int times : new int[] {LOW, -1, 101, HIGH}) {
            CHECK.argument("19 run(" + times + ")", () -> x.run(times));
        }
        due("19 run(0)", x.run(0), 0);
        due("19 nothing came", x.net(1), 1);
        due("19 no TICK", x.tick(), 1);
        due("19 run(100)", x.run(100), 4);
        due("19 100 TICKS", x.tick(), 102);
        due("19 run(1)", x.run(1), 0);
        due("19 a TICK", x.tick(), 104);
    }

    /** Promise 19: "(not those that are sent by that); then all that are there then on their way to side 0, likewise" */
    private static void runOnlyWhatIsThere() {
        LossyPair x = Pairs.begun(1, 500);
        due("19 HELLO, and RETRY in the same round", x.run(1), 2);
        due("19 HELLO with COOKIE not in that round", x.net(1), 1);
        due("20 the server waits", x.state(1), 0);
        due("19 HELLO, and the answer in the same round", x.run(1), 2);
        due("19 FINISHED not in that round", x.net(1), 1);
        due("20 the client is OPEN", x.state(0) * 10 + x.state(1), 21);
        due("19 FINISHED and its ACK", x.run(1), 2);
        LossyPair y = Scenes.full(Pairs.begun(0, 500));
        due("19 with full nets, HELLO ahead", y.net(1) + y.net(0), 120);
        due("19 60 to side 1; of the answer nothing has room; 60 to side 0", y.run(1), 120);
        due("20 the client waits", y.state(0) * 10 + y.state(1), 11);
    }

    /** Promise 19: "Answers how many came." */
    private static void runAnswers() {
        LossyPair x = Scenes.full(new LossyPair());
        due("19 60 and 60", x.run(1), 120);
        due("19 none", x.run(1), 0);
        due("24 MALFORMED", x.told(0, 0) * 100 + x.told(1, 0), 6060);
        LossyPair y = Scenes.full(Scenes.make(12));
        due("19 they come to those that are DEAD, too", y.run(2), 120);
        due("11 an empty net", y.net(0) + y.net(1), 0);
        due("24 not even counted", y.told(0, 0) + y.told(1, 0), 0);
    }

    /** Promise 20: "0 it waits to begin, or for HELLO; 1 it waits for more; 2 it is OPEN; 3 CLOSED; 4 DEAD." */
    private static void states() {
        int[] want = {0, 0, 10, 11, 11, 21, 22, 22, 32, 23, 40, 4, 44, 0, 22, 22, 21};
        for (int scene = 0; scene < want.length; scene++) {
            LossyPair x = Scenes.make(scene);
            due("20 " + Scenes.NAMES[scene], x.state(0) * 10 + x.state(1), want[scene]);
        }
    }

    /** Promise 21: "How many writings were delivered to a side." */
    private static void gotCounts() {
        LossyPair x = Pairs.open();
        for (int n = 1; n <= 130; n++) {
            x.draft(1, n);
            x.write(n % 2);
            x.run(1);
            due("21 got(0)", x.got(0), (n + 1) / 2);
            due("21 got(1)", x.got(1), n / 2);
        }
    }

    /** Promises 21 and 22: "(The latest 100 can be asked for.)"; "or it is not of the latest 100." */
    private static void latestHundred() {
        for (int many : new int[] {1, 99, 100, 101, 200, 201}) {
            LossyPair x = Pairs.open();
            for (int n = 0; n < many; n++) {
                x.draft(1 + n % 8, n * 0x0101010101010101L);
                x.write(0);
                x.deliver(1, 0);
            }
            due("21 got", x.got(1), many);
            int first = Math.max(0, many - 100);
            for (int k = first; k < many; k++) {
                due("22 how many octets, of " + many, x.gotOctet(1, k, -1), 1 + k % 8);
                due("22 the last octet", x.gotOctet(1, k, k % 8), (k * 0x0101010101010101L >> 8 * (k % 8)) & 255);
            }
            for (int k : new int[] {LOW, -100, -1, first - 1, many, many + 1, HIGH}) {
                CHECK.range("22 gotOctet(1, " + k + ", 0) of " + many, () -> x.gotOctet(1, k, 0));
                CHECK.range("22 gotOctet(1, " + k + ", -1) of " + many, () -> x.gotOctet(1, k, -1));
            }
        }
    }

    /** Promise 22: "Octet i of the k-th of them, from 0 on; i = NONE: how many it has."; "there is none such" */
    private static void gotOctetEdges() {
        for (int many : new int[] {1, 2, 59, 60}) {
            LossyPair x = Pairs.open();
            byte[] octets = Octets.join(Octets.hash(Octets.of(many)), Octets.hash(Octets.of(9)));
            octets[0] = (byte) 255;
            octets[many - 1] = (byte) 254;
            Pairs.draft(x, Octets.part(octets, 0, many));
            x.write(1);
            x.run(1);
            due("22 how many", x.gotOctet(0, 0, LossyPair.NONE), many);
            for (int i = 0; i < many; i++) {
                due("22 octet " + i, x.gotOctet(0, 0, i), octets[i] & 255);
            }
            for (int i : new int[] {LOW, -2, many, many + 1, 60, HIGH}) {
                CHECK.range("22 gotOctet(0, 0, " + i + ")", () -> x.gotOctet(0, 0, i));
            }
            CHECK.range("22 none such", () -> x.gotOctet(0, 1, -1));
            CHECK.range("22 the other side has none", () -> x.gotOctet(1, 0, -1));
        }
    }

    private static String secretsOf(LossyPair x, int side) {
        StringBuilder text = new StringBuilder();
        for (int which = 0; which < 6; which++) {
            int none = 0;
            for (int i = 0; i < 32; i++) {
                none += x.secret(side, which, i) == LossyPair.NONE ? 1 : 0;
            }
            text.append(none == 0 ? '+' : none == 32 ? '-' : '?');
        }
        return text.toString();
    }

    /** Promise 23: "NONE when it has it not." */
    private static void secretNone() {
        String[] clients = {"------", "------", "------", "------", "++--++", "++++++", "++++++", "++++++", "++++++",
            "++++++", "------", "------", "++++++", "------", "++++++", "++++++", "++++++"};
        String[] servers = {"------", "------", "------", "++++++", "++++++", "++++++", "++++++", "++++++", "++++++",
            "++++++", "------", "------", "++++++", "------", "++++++", "++++++", "++++++"};
        for (int scene = 0; scene < clients.length; scene++) {
            LossyPair x = Scenes.make(scene);
            CHECK.yes("23 the client, " + Scenes.NAMES[scene], secretsOf(x, 0).equals(clients[scene]));
            CHECK.yes("23 the server, " + Scenes.NAMES[scene], secretsOf(x, 1).equals(servers[scene]));
        }
    }

    /** Promise 23: "Octet i (0 to 31)"; "IndexOutOfBoundsException: also of which, i." */
    private static void secretEdges() {
        for (int scene : new int[] {0, 4, 6}) {
            LossyPair x = Scenes.make(scene);
            for (int which : new int[] {LOW, -1, 6, HIGH}) {
                CHECK.range("23 which " + which, () -> x.secret(0, which, 0));
                CHECK.range("23 which " + which, () -> x.secret(1, which, 31));
            }
            for (int i : new int[] {LOW, -1, 32, HIGH}) {
                CHECK.range("23 i " + i, () -> x.secret(0, 0, i));
                CHECK.range("23 i " + i, () -> x.secret(1, 5, i));
            }
            CHECK.range("23 side", () -> x.secret(2, 0, 0));
        }
        LossyPair x = Pairs.open();
        byte[] hand = Pairs.secret(x, 0, 4);
        byte[] main = Octets.mac(Octets.expand(hand, "derived"), new byte[32]);
        for (int i : new int[] {0, 31}) {
            due("23 octet " + i, x.secret(1, 5, i), main[i] & 255);
        }
    }

    /** Promise 24: "IndexOutOfBoundsException: also of what." */
    private static void toldEdges() {
        for (int scene = 0; scene < Scenes.NAMES.length; scene++) {
            LossyPair x = Scenes.make(scene);
            for (int what : new int[] {LOW, -1, 13, 14, HIGH}) {
                CHECK.range("24 told(0, " + what + ")", () -> x.told(0, what));
                CHECK.range("24 told(1, " + what + ")", () -> x.told(1, what));
            }
        }
        LossyPair x = Pairs.begun(0, 500);
        due("24 the first", x.told(0, 0), 0);
        due("24 the last", x.told(0, 12), 61);
        LossyPair y = Scenes.make(16);
        for (int what = 0; what < 13; what++) {
            CHECK.yes("24 told(0, " + what + ")", what == 8 ? y.told(0, 8) == -1 : y.told(0, what) > 0);
        }
    }

    /** Promise 24: "the ALERT that it sent or that came, NONE without one (8; the first that is not 0)" */
    private static void firstAlert() {
        LossyPair x = Pairs.begun(0, 500);
        due("24 NONE", x.told(0, 8) + x.told(1, 8), -2);
        x.twice(1, 0);
        x.forge(1, 0, 42, 1);
        x.deliver(1, 0);
        due("24 that it sent", x.told(1, 8), 40);
        x.forge(1, 0, 3, 5);
        x.forge(1, 0, 74, 1);
        x.deliver(1, 0);
        due("24 51 was sent, but 40 is the first", x.net(0) * 100 + x.told(1, 8), 240);
        Pairs.hit(x, 1, Octets.openRecord(21, 9, Octets.of(77)));
        due("24 77 came, but 40 is the first", x.state(1) * 100 + x.told(1, 8), 440);
        x.deliver(0, 1);
        due("24 that came", x.told(0, 8), 51);
        LossyPair y = Pairs.open();
        y.close(0);
        Pairs.hit(y, 0, Pairs.sealed(y, 0, 3, 9, 21, Octets.of(0)));
        due("24 CLOSE sent, and come: NONE", y.told(0, 8), -1);
        Pairs.hit(y, 0, Pairs.sealed(y, 0, 3, 10, 21, Octets.of(255)));
        due("24 the first that is not 0", y.told(0, 8), 255);
    }

    /** Promise 24: "whether it heard CLOSE (9)" */
    private static void heardClose() {
        LossyPair x = Pairs.open();
        x.close(0);
        due("24 not yet, nor one that closes", x.told(0, 9) + x.told(1, 9), 0);
        x.lose(1, 0);
        x.run(1);
        due("24 CLOSE is lost", x.told(1, 9), 0);
        Pairs.hit(x, 1, Pairs.sealed(x, 1, 3, 9, 21, Octets.of(0)));
        Pairs.hit(x, 1, Pairs.sealed(x, 1, 3, 10, 21, Octets.of(0)));
        due("24 twice is 1, too", x.told(1, 9), 1);
        x.make(0, 500);
        due("2 anew", x.told(1, 9), 0);
    }
}
