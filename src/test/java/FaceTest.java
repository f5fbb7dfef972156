/** Promises 1 to 9 and 11 to 18: what can be set, sent, looked at and meddled with, and what is refused. */
public final class FaceTest {
    private static final int[] NO_SIDES = {-1, 2, Integer.MIN_VALUE, Integer.MAX_VALUE};
    private static final Check CHECK = new Check("FaceTest");

    private FaceTest() {
    }

    public static void main(String[] args) {
        newObject();
        make();
        makeRefuses();
        keyAndName();
        draft();
        greet();
        begin();
        write();
        lastNumber();
        close();
        netSizeOctet();
        fullNet();
        deliver();
        lose();
        twice();
        forge();
        inject();
        CHECK.end();
    }

    private static void due(String what, long got, long want) {
        CHECK.due(what, got, want);
    }

    private static void newObject() {
        LossyPair x = new LossyPair();
        LossyPair y = new LossyPair();
        y.make(0, 200);
        due("1 NONE", LossyPair.NONE, -1);
        for (int side = 0; side < 2; side++) {
            due("1 state", x.state(side), 0);
            due("1 net", x.net(side), 0);
            due("1 got", x.got(side), 0);
            for (int what = 0; what < 13; what++) {
                due("1 told " + what, x.told(side, what), what == 8 ? -1 : 0);
            }
            for (int which = 0; which < 6; which++) {
                due("1 secret " + which, x.secret(side, which, 31), -1);
            }
        }
        due("1 begin", x.begin(), y.begin());
        due("1 size", x.size(1, 0), 75);
        for (int k = 0; k < 75; k++) {
            due("1 octet " + k, x.octet(1, 0, k), y.octet(1, 0, k));
        }
        x.run(1);
        due("1 MTU in SETTINGS: state", x.state(0), 2);
        due("1 tick", x.tick(), 2);
    }

    private static void make() {
        LossyPair x = Pairs.open();
        Pairs.write(x, 0, "abc");
        x.run(1);
        Pairs.write(x, 0, "abc");
        x.draft(8, 1);
        x.make(0, 100);
        for (int side = 0; side < 2; side++) {
            due("2 state", x.state(side), 0);
            due("2 net", x.net(side), 0);
            due("2 got", x.got(side), 0);
            for (int what = 0; what < 13; what++) {
                due("2 told " + what, x.told(side, what), what == 8 ? -1 : 0);
            }
            for (int which = 0; which < 6; which++) {
                due("2 secret " + which, x.secret(side, which, 0), -1);
            }
        }
        due("2 THE DRAFT is empty", x.draft(1, 0), 1);
        due("2 NOW is 0", x.tick(), 1);
        due("2 begin", x.begin(), 1);
        byte[] hello = Pairs.datagram(x, 1, 0);
        byte[] random = Octets.part(Octets.mac(new byte[8], Octets.of(0, 0, 0)), 0, 16);
        due("2 SEED is all 0s", java.util.Arrays.equals(random, Octets.part(hello, 14, 30)) ? 1 : 0, 1);
        due("2 NAME is all 0s", java.util.Arrays.equals(new byte[8], Octets.part(hello, 35, 43)) ? 1 : 0, 1);
        byte[] binder = Octets.mac(
                Octets.expand(Octets.mac(new byte[32], new byte[16]), "binder"),
                Octets.hash(Octets.of(1, 0, 61), Octets.part(hello, 14, 43)));
        due("2 KEY is all 0s", java.util.Arrays.equals(binder, Octets.part(hello, 43, 75)) ? 1 : 0, 1);
        x.run(1);
        due("2 no GREETING", x.told(1, 12), 54);
        wants();
    }

    private static void wants() {
        for (int wants = 0; wants <= 7; wants++) {
            LossyPair x = Pairs.begun(wants, 500);
            byte[] hello = Pairs.datagram(x, 1, 0);
            due("2 SHARE of HELLO", Octets.u4At(hello, 31) != 0 ? 1 : 0, wants >> 1 & 1);
            x.deliver(1, 0);
            due("2 COOKIES", x.state(1), 1 - (wants & 1));
            if ((wants & 1) != 0) {
                x.deliver(0, 0);
                x.deliver(1, 0);
            }
            byte[] answer = Pairs.datagram(x, 0, 0);
            due("2 SHARE of ANSWER", Octets.u4At(answer, 30) != 0 ? 1 : 0, wants >= 6 ? 1 : 0);
        }
    }

    private static void makeRefuses() {
        LossyPair x = Pairs.begun(0, 100);
        int[][] wrong = {{-1, 200}, {8, 200}, {Integer.MAX_VALUE, 200}, {Integer.MIN_VALUE, 200},
            {0, 99}, {0, 501}, {7, 0}, {7, -1}, {7, Integer.MAX_VALUE}, {7, Integer.MIN_VALUE}, {-1, 99}};
        for (int[] w : wrong) {
            CHECK.argument("2 make(" + w[0] + ", " + w[1] + ")", () -> x.make(w[0], w[1]));
            due("2 nothing changed", x.net(1), 1);
            due("2 nothing changed", x.state(0), 1);
        }
        x.make(7, 100);
        x.make(0, 500);
        due("2 both edges are fine", x.state(0), 0);
    }

    private static void keyAndName() {
        LossyPair x = new LossyPair();
        x.key(0, 0x0102030405060708L, 0xf1f2f3f4f5f6f7f8L);
        x.name(0, 0xa1a2a3a4a5a6a7a8L, 0xb1b2b3b4b5b6b7b8L);
        x.begin();
        byte[] hello = Pairs.datagram(x, 1, 0);
        byte[] key = Octets.of(1, 2, 3, 4, 5, 6, 7, 8, 0xf1, 0xf2, 0xf3, 0xf4, 0xf5, 0xf6, 0xf7, 0xf8);
        byte[] name = Octets.of(0xa1, 0xa2, 0xa3, 0xa4, 0xa5, 0xa6, 0xa7, 0xa8);
        byte[] seed = Octets.of(0xb1, 0xb2, 0xb3, 0xb4, 0xb5, 0xb6, 0xb7, 0xb8);
        byte[] random = Octets.part(Octets.mac(seed, Octets.of(0, 0, 0)), 0, 16);
        byte[] front = Octets.join(random, Octets.of(0), Octets.u4(0), name);
        byte[] binder = Octets.mac(
                Octets.expand(Octets.mac(new byte[32], key), "binder"),
                Octets.hash(Octets.of(1, 0, 61), front));
        byte[] want = Octets.openRecord(22, 0, Octets.fragment(1, 61, 0, 0, Octets.join(front, binder)));
        due("3, 4 HELLO", java.util.Arrays.equals(want, hello) ? 1 : 0, 1);
        keyMatters();
        keyAndNameRefuse();
    }

    private static void keyMatters() {
        LossyPair other = Pairs.ready(0, 500);
        other.key(1, 1, 3);
        other.begin();
        other.run(1);
        due("3 another KEY of the server", other.told(1, 8), 51);
        LossyPair renamed = Pairs.ready(0, 500);
        renamed.name(1, 78, 6);
        renamed.begin();
        renamed.run(1);
        due("4 another NAME of the server", renamed.told(1, 8), 40);
        LossyPair again = Pairs.ready(0, 500);
        again.key(0, 9, 9);
        again.key(0, 1, 2);
        again.name(0, 9, 9);
        again.name(0, 77, 5);
        again.begin();
        again.run(1);
        due("3, 4 the latest ones hold", again.state(0), 2);
    }

    private static void keyAndNameRefuse() {
        LossyPair x = Pairs.ready(0, 500);
        for (int side : NO_SIDES) {
            CHECK.range("3 key(" + side + ")", () -> x.key(side, 5, 5));
            CHECK.range("4 name(" + side + ")", () -> x.name(side, 5, 5));
        }
        x.begin();
        for (int side = 0; side < 2; side++) {
            int at = side;
            CHECK.state("3 key behind begin", () -> x.key(at, 5, 5));
            CHECK.state("4 name behind begin", () -> x.name(at, 5, 5));
        }
        CHECK.range("3 the first exception goes first", () -> x.key(2, 5, 5));
        CHECK.range("4 the first exception goes first", () -> x.name(-1, 5, 5));
        x.run(1);
        due("3, 4 nothing changed", x.state(0), 2);
        LossyPair dead = deadBeforeBegin();
        CHECK.state("3 key, DEAD", () -> dead.key(1, 5, 5));
        CHECK.state("4 name, DEAD", () -> dead.name(1, 5, 5));
    }

    /** An ALERT by EPOCH 0 comes to a client that has not begun. */
    private static LossyPair deadBeforeBegin() {
        LossyPair x = Pairs.ready(0, 500);
        due("14 an ALERT", Pairs.hit(x, 0, Octets.openRecord(21, 0, Octets.of(40))), 1);
        due("20 DEAD", x.state(0), 4);
        return x;
    }

    private static void draft() {
        LossyPair x = new LossyPair();
        due("5 draft(8)", x.draft(8, 0x8877665544332211L), 8);
        due("5 draft(1)", x.draft(1, 0xffL), 9);
        due("5 draft(3)", x.draft(3, -2L), 12);
        x.inject(0);
        int[] want = {0x11, 0x22, 0x33, 0x44, 0x55, 0x66, 0x77, 0x88, 255, 254, 255, 255};
        for (int k = 0; k < want.length; k++) {
            due("5 octet " + k, x.octet(0, 0, k), want[k]);
        }
        for (int n : new int[] {0, 9, -1, Integer.MAX_VALUE, Integer.MIN_VALUE}) {
            CHECK.argument("5 draft(" + n + ")", () -> x.draft(n, 0));
        }
        for (int i = 1; i <= 62; i++) {
            due("5 up to 496", x.draft(8, i), 8 * i);
        }
        CHECK.argument("5 more than 500", () -> x.draft(5, 0));
        CHECK.argument("5 more than 500", () -> x.draft(8, 0));
        due("5 just 500", x.draft(4, 0), 500);
        CHECK.argument("5 more than 500", () -> x.draft(1, 0));
        due("5 nothing changed", x.inject(1), 1);
        due("5 nothing changed", x.size(1, 0), 500);
    }

    private static void greet() {
        LossyPair x = Pairs.ready(0, 500);
        due("6 an empty one", x.greet(), 0);
        Pairs.draft(x, new byte[151]);
        CHECK.argument("6 151 octets", () -> x.greet());
        due("6 THE DRAFT stays", x.inject(0), 1);
        due("6 THE DRAFT stays", x.size(0, 0), 151);
        x.lose(0, 0);
        Pairs.draft(x, new byte[150]);
        due("6 150 octets", x.greet(), 150);
        due("6 THE DRAFT is empty then", x.inject(0), -1);
        x.draft(2, 0x0201);
        due("6 another one in its place", x.greet(), 2);
        x.draft(1, 7);
        x.begin();
        CHECK.state("6 behind begin", () -> x.greet());
        due("6 THE DRAFT stays", x.draft(1, 0), 2);
        Pairs.draft(x, new byte[200]);
        CHECK.state("6 the first exception goes first", () -> x.greet());
        x.deliver(1, 0);
        due("6 in SETTINGS", x.told(1, 12), 56);
        x.deliver(0, 0);
        due("6 the client takes it", x.state(0), 2);
        LossyPair dead = deadBeforeBegin();
        CHECK.state("6 greet, DEAD", () -> dead.greet());
    }

    private static void begin() {
        LossyPair x = Pairs.ready(2, 100);
        due("7 begin", x.begin(), 1);
        due("7 state", x.state(0), 1);
        due("7 net", x.net(1), 1);
        due("7 TIMER", x.told(0, 7), 4);
        due("7 sent", x.told(0, 5), 1);
        due("7 not ACKED", x.told(0, 12), 61);
        byte[] hello = Pairs.datagram(x, 1, 0);
        byte[] seed = Octets.u8(5);
        long number = Octets.u4At(Octets.mac(seed, Octets.of(0, 0, 1)), 0) % 2147483646L + 1;
        due("7 SHARE", Octets.u4At(hello, 31), Model.ModelSide.power(7, number));
        CHECK.state("7 begin again", () -> x.begin());
        due("7 nothing changed", x.net(1), 1);
        LossyPair dead = deadBeforeBegin();
        CHECK.state("7 begin, DEAD", () -> dead.begin());
        LossyPair open = Pairs.open();
        CHECK.state("7 begin, OPEN", () -> open.begin());
    }

    private static void write() {
        LossyPair x = Pairs.open();
        Pairs.draft(x, new byte[60]);
        due("8 the client's first", x.write(0), 0);
        due("8 size", x.size(1, 0), 5 + 60 + 9);
        due("8 THE DRAFT is empty then", x.draft(1, 5), 1);
        due("8 the client's second", x.write(0), 1);
        due("8 a datagram of its own", x.net(1), 2);
        x.draft(1, 5);
        due("8 the server's, behind its ACK", x.write(1), 1);
        x.run(1);
        due("8 got", x.got(0), 1);
        due("8 got", x.got(1), 2);
        CHECK.argument("8 an empty DRAFT", () -> x.write(0));
        Pairs.draft(x, new byte[61]);
        CHECK.argument("8 61 octets", () -> x.write(0));
        due("8 THE DRAFT stays", x.draft(1, 0), 62);
        for (int side : NO_SIDES) {
            CHECK.range("8 write(" + side + ")", () -> x.write(side));
        }
        x.close(0);
        CHECK.state("8 CLOSED; the first exception goes first", () -> x.write(0));
        CHECK.argument("8 the other side is OPEN", () -> x.write(1));
        LossyPair y = Pairs.begun(0, 500);
        y.draft(1, 1);
        CHECK.state("8 it waits for more", () -> y.write(0));
        CHECK.state("8 it waits for HELLO", () -> y.write(1));
        LossyPair dead = deadBeforeBegin();
        dead.draft(1, 1);
        CHECK.state("8 DEAD", () -> dead.write(0));
    }

    /** More calls than are promised, but the end of the numbers is told. */
    private static void lastNumber() {
        LossyPair x = Pairs.open();
        for (int n = 0; n < 65536; n++) {
            x.draft(1, n);
            due("8 the number", x.write(0), n);
            x.lose(1, 0);
        }
        x.draft(1, 1);
        int sent = x.told(0, 5);
        due("8 it is 65536 already", x.write(0), -1);
        due("8 THE DRAFT stays", x.draft(1, 2), 2);
        due("8 nothing is sent", x.net(1) + x.told(0, 5) - sent, 0);
        CHECK.range("8 an exception goes before", () -> x.write(2));
        due("8 the server writes", x.write(1), 1);
        x.close(0);
        due("9 CLOSED, behind the last number none is sent", x.state(0) * 10 + x.net(1), 30);
    }

    private static void close() {
        LossyPair x = Pairs.open();
        x.close(0);
        due("9 state", x.state(0), 3);
        due("9 ALERT 0 in a datagram", x.size(1, 0), 5 + 1 + 9);
        due("9 by EPOCH 3", x.octet(1, 0, 0), 35);
        CHECK.state("9 close again", () -> x.close(0));
        due("9 nothing changed", x.net(1), 1);
        x.run(1);
        due("9 the other is told", x.told(1, 9), 1);
        due("9 the other stays OPEN", x.state(1), 2);
        due("9 no ALERT is told", x.told(0, 8), -1);
        due("9 no ALERT is told", x.told(1, 8), -1);
        Pairs.write(x, 1, "still");
        x.run(1);
        due("9 one that is CLOSED hears", x.got(0), 1);
        x.close(1);
        x.run(1);
        due("9 both CLOSED", x.told(0, 9), 1);
        due("9 both CLOSED", x.state(1), 3);
        for (int side : NO_SIDES) {
            CHECK.range("9 close(" + side + ")", () -> x.close(side));
        }
        LossyPair y = Pairs.begun(0, 500);
        CHECK.state("9 it waits for more", () -> y.close(0));
        CHECK.state("9 it waits for HELLO", () -> y.close(1));
    }

    private static void netSizeOctet() {
        LossyPair x = Pairs.begun(0, 100);
        for (int side : NO_SIDES) {
            CHECK.range("11 net(" + side + ")", () -> x.net(side));
            CHECK.range("12 size(" + side + ", 0)", () -> x.size(side, 0));
            CHECK.range("13 octet(" + side + ", 0, 0)", () -> x.octet(side, 0, 0));
        }
        for (int i : new int[] {-1, 1, Integer.MAX_VALUE, Integer.MIN_VALUE}) {
            CHECK.range("12 size(1, " + i + ")", () -> x.size(1, i));
            CHECK.range("13 octet(1, " + i + ", 0)", () -> x.octet(1, i, 0));
        }
        for (int k : new int[] {-1, 75, 76, Integer.MAX_VALUE, Integer.MIN_VALUE}) {
            CHECK.range("13 octet(1, 0, " + k + ")", () -> x.octet(1, 0, k));
        }
        CHECK.range("12 an empty net", () -> x.size(0, 0));
        due("12 size", x.size(1, 0), 75);
        due("13 the first", x.octet(1, 0, 0), 22);
        due("13 an octet of NAME", x.octet(1, 0, 42), 77);
        Pairs.inject(x, 1, Octets.of(1, 2, 3));
        Pairs.inject(x, 1, Octets.of(255));
        due("11 in the order in which they were sent", x.size(1, 1), 3);
        due("11 in the order in which they were sent", x.size(1, 2), 1);
        due("13 an octet has no sign", x.octet(1, 2, 0), 255);
        x.lose(1, 1);
        due("11 the others keep their order", x.size(1, 0), 75);
        due("11 the others keep their order", x.size(1, 1), 1);
    }

    private static void fullNet() {
        LossyPair x = Pairs.ready(0, 500);
        for (int i = 1; i <= 60; i++) {
            due("18 inject", Pairs.inject(x, 1, Octets.of(i, i)), i);
        }
        x.draft(2, 0x0101);
        due("18 a full net", x.inject(1), -1);
        due("18 THE DRAFT stays", x.draft(1, 1), 3);
        due("16 a full net", x.twice(1, 0), -1);
        due("11 at most 60", x.net(1), 60);
        due("7 sent, and lost", x.begin(), 1);
        due("11 one more is lost", x.net(1), 60);
        due("24 it was sent", x.told(0, 5), 1);
        due("18 the other way is free", x.inject(0), 1);
        for (int i = 0; i < 60; i++) {
            due("13 all are there", x.octet(1, i, 1), i + 1);
        }
        x.lose(1, 59);
        due("16 one goes, one comes", x.twice(1, 10), 60);
        due("16 as the last one", x.octet(1, 59, 0), 11);
    }

    private static void deliver() {
        LossyPair x = Pairs.begun(0, 500);
        for (int side : NO_SIDES) {
            CHECK.range("14 deliver(" + side + ", 0)", () -> x.deliver(side, 0));
        }
        for (int i : new int[] {-1, 1, Integer.MAX_VALUE, Integer.MIN_VALUE}) {
            CHECK.range("14 deliver(1, " + i + ")", () -> x.deliver(1, i));
        }
        CHECK.range("14 an empty net", () -> x.deliver(0, 0));
        x.twice(1, 0);
        due("14 HELLO CAME", x.deliver(1, 0), 1);
        due("14 it is in the net no more", x.net(1), 1);
        due("14 it comes at most once", x.deliver(1, 0), 0);
        due("14 STALE", x.told(1, 2), 1);
        due("14 all three MESSAGES", x.deliver(0, 0), 3);
        due("14 FINISHED", x.deliver(1, 0), 1);
        Pairs.write(x, 0, "a");
        Pairs.write(x, 0, "b");
        due("14 the second one first", x.deliver(1, 1), 1);
        due("22 the second one first", x.gotOctet(1, 0, 0), 'b');
        due("14 then the first one", x.deliver(1, 0), 1);
        due("22 then the first one", x.gotOctet(1, 1, 0), 'a');
        due("14 MALFORMED", Pairs.hit(x, 1, Octets.of(1)), 0);
        due("14 some of its records", Pairs.hit(x, 1, Octets.openRecord(26, 900, new byte[0]), Octets.of(9)), 1);
    }

    private static void lose() {
        LossyPair x = Pairs.begun(0, 500);
        for (int side : NO_SIDES) {
            CHECK.range("15 lose(" + side + ", 0)", () -> x.lose(side, 0));
        }
        for (int i : new int[] {-1, 1, Integer.MAX_VALUE, Integer.MIN_VALUE}) {
            CHECK.range("15 lose(1, " + i + ")", () -> x.lose(1, i));
        }
        Pairs.inject(x, 1, Octets.of(1, 2));
        Pairs.inject(x, 1, Octets.of(1, 2, 3));
        due("15 lose", x.lose(1, 1), 2);
        due("15 the right one", x.size(1, 1), 3);
        due("15 lose", x.lose(1, 0), 1);
        due("15 lose", x.lose(1, 0), 0);
        CHECK.range("15 an empty net", () -> x.lose(1, 0));
        x.run(1);
        due("15 nothing came", x.state(1), 0);
    }

    private static void twice() {
        LossyPair x = Pairs.begun(0, 500);
        for (int side : NO_SIDES) {
            CHECK.range("16 twice(" + side + ", 0)", () -> x.twice(side, 0));
        }
        for (int i : new int[] {-1, 1, Integer.MAX_VALUE, Integer.MIN_VALUE}) {
            CHECK.range("16 twice(1, " + i + ")", () -> x.twice(1, i));
        }
        Pairs.inject(x, 1, Octets.of(1, 2));
        due("16 twice", x.twice(1, 0), 3);
        due("16 as the last one", x.size(1, 2), 75);
        due("16 the same octets", x.octet(1, 2, 42), 77);
        x.forge(1, 2, 42, 1);
        due("16 a datagram of its own", x.octet(1, 0, 42), 77);
        due("16 it was not sent", x.told(0, 5), 1);
    }

    private static void forge() {
        LossyPair x = Pairs.begun(0, 500);
        for (int side : NO_SIDES) {
            CHECK.range("17 forge(" + side + ")", () -> x.forge(side, 0, 0, 1));
        }
        for (int i : new int[] {-1, 1, Integer.MAX_VALUE, Integer.MIN_VALUE}) {
            CHECK.range("17 forge(1, " + i + ")", () -> x.forge(1, i, 0, 1));
        }
        for (int k : new int[] {-1, 75, Integer.MAX_VALUE, Integer.MIN_VALUE}) {
            CHECK.range("17 forge(1, 0, " + k + ")", () -> x.forge(1, 0, k, 1));
        }
        due("17 forge", x.forge(1, 0, 0, 0x1ff), 22 ^ 255);
        due("17 octet", x.octet(1, 0, 0), 22 ^ 255);
        due("17 back", x.forge(1, 0, 0, -1), 22);
        due("17 mask 0", x.forge(1, 0, 0, 0x7fffff00), 22);
        due("17 the last one", x.forge(1, 0, 74, 1), x.octet(1, 0, 74));
        x.deliver(1, 0);
        due("17 BINDER is not right", x.told(1, 8), 51);
    }

    private static void inject() {
        LossyPair x = Pairs.ready(0, 100);
        for (int side : NO_SIDES) {
            CHECK.range("18 inject(" + side + ")", () -> x.inject(side));
        }
        due("18 an empty DRAFT", x.inject(0), -1);
        Pairs.draft(x, new byte[500]);
        CHECK.range("18 a wrong side", () -> x.inject(2));
        due("18 500 octets, above the MTU", x.inject(0), 1);
        due("18 size", x.size(0, 0), 500);
        due("18 THE DRAFT is empty then", x.inject(0), -1);
        due("18 to the other side", Pairs.inject(x, 1, Octets.of(7)), 1);
        due("18 octet", x.octet(1, 0, 0), 7);
        due("18 nobody sent it", x.told(0, 5) + x.told(1, 5), 0);
    }
}
