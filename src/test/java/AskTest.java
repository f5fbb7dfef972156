/** Promises 10 and 19 to 24: time, and what can be asked of the sides. */
public final class AskTest {
    private static final int[] NO_SIDES = {-1, 2, Integer.MIN_VALUE, Integer.MAX_VALUE};
    private static final Check CHECK = new Check("AskTest");

    private AskTest() {
    }

    public static void main(String[] args) {
        tick();
        run();
        runOnlyWhatIsThere();
        state();
        got();
        latestHundred();
        secret();
        told();
        toldSent();
        manyObjects();
        strangeCalls();
        CHECK.end();
    }

    private static void due(String what, long got, long want) {
        CHECK.due(what, got, want);
    }

    private static void tick() {
        LossyPair x = new LossyPair();
        for (int now = 1; now <= 300; now++) {
            due("10 tick", x.tick(), now);
        }
        due("10 nothing is sent by one that waits", x.net(0) + x.net(1), 0);
        x.begin();
        due("10 NOW of a later FLIGHT", x.tick(), 301);
        Pairs.ticks(x, 2);
        due("10 not yet", x.net(1), 1);
        x.tick();
        due("10 TIMER is told from then on", x.net(1), 2);
        due("19 run passes TICKS", x.run(3) >= 0 ? x.tick() : 0, 308);
        x.make(0, 200);
        due("2 NOW is 0", x.tick(), 1);
    }

    private static void run() {
        LossyPair x = Pairs.begun(0, 500);
        for (int times : new int[] {-1, 101, Integer.MIN_VALUE, Integer.MAX_VALUE}) {
            CHECK.argument("19 run(" + times + ")", () -> x.run(times));
        }
        due("19 run(0)", x.run(0), 0);
        due("19 no TICK", x.net(1), 1);
        due("19 HELLO and its answer", x.run(1), 2);
        due("19 FINISHED is on its way", x.net(1), 1);
        due("19 FINISHED and its ACK", x.run(1), 2);
        due("19 nothing", x.run(1), 0);
        due("19 TICKS", x.tick(), 4);
        due("19 a hundred", x.run(100), 0);
        due("19 TICKS", x.tick(), 105);
        LossyPair y = Pairs.begun(7, 100);
        due("19 all at once", y.run(100), 7);
        due("19 OPEN", y.state(0) * 10 + y.state(1), 22);
    }

    private static void runOnlyWhatIsThere() {
        // Two HELLOS come; only the first one is answered, and side 0 hears what is there then.
        LossyPair x = Pairs.begun(1, 500);
        Pairs.ticks(x, 4);
        due("19 two HELLOS, two RETRIES", x.run(1), 4);
        due("19 one HELLO with COOKIE", x.net(1), 1);
        LossyPair y = Pairs.open();
        Pairs.write(y, 0, "first");
        Pairs.write(y, 0, "second");
        Pairs.write(y, 1, "third");
        due("19 in order", y.run(1), 3);
        due("19 in order", y.gotOctet(1, 0, 0), 'f');
        due("19 in order", y.gotOctet(1, 1, 0), 's');
        // Side 1 goes first: its ACK goes back in the same round.
        LossyPair z = Pairs.clientOpen();
        due("19 FINISHED and ACK", z.run(1), 2);
        due("19 the client's FLIGHT is OVER", z.told(0, 7), 0);
    }

    private static void state() {
        LossyPair x = Pairs.ready(0, 500);
        for (int side : NO_SIDES) {
            CHECK.range("20 state(" + side + ")", () -> x.state(side));
            CHECK.range("21 got(" + side + ")", () -> x.got(side));
            CHECK.range("22 gotOctet(" + side + ")", () -> x.gotOctet(side, 0, 0));
            CHECK.range("23 secret(" + side + ")", () -> x.secret(side, 0, 0));
            CHECK.range("24 told(" + side + ")", () -> x.told(side, 0));
        }
        due("20 they wait", x.state(0) * 10 + x.state(1), 0);
        x.begin();
        due("20 the client waits for more", x.state(0) * 10 + x.state(1), 10);
        x.deliver(1, 0);
        due("20 the server, too", x.state(0) * 10 + x.state(1), 11);
        x.deliver(0, 0);
        due("20 the client is OPEN", x.state(0) * 10 + x.state(1), 21);
        x.deliver(1, 0);
        due("20 both are OPEN", x.state(0) * 10 + x.state(1), 22);
        x.close(1);
        due("20 CLOSED", x.state(0) * 10 + x.state(1), 23);
        Pairs.hit(x, 1, Pairs.sealed(x, 1, 3, 5, 21, Octets.of(1)));
        due("20 DEAD", x.state(0) * 10 + x.state(1), 24);
    }

    private static void got() {
        LossyPair x = Pairs.open();
        due("21 none", x.got(0) + x.got(1), 0);
        CHECK.range("22 none", () -> x.gotOctet(1, 0, 0));
        CHECK.range("22 none", () -> x.gotOctet(1, 0, -1));
        Pairs.write(x, 0, "ab\u00ff");
        due("21 not yet", x.got(1), 0);
        x.twice(1, 0);
        x.run(1);
        due("21 at most once", x.got(1), 1);
        due("21 not the own ones", x.got(0), 0);
        due("22 how many", x.gotOctet(1, 0, -1), 3);
        due("22 the first", x.gotOctet(1, 0, 0), 'a');
        due("22 the last", x.gotOctet(1, 0, 2), 255);
        for (int i : new int[] {3, -2, Integer.MAX_VALUE, Integer.MIN_VALUE}) {
            CHECK.range("22 gotOctet(1, 0, " + i + ")", () -> x.gotOctet(1, 0, i));
        }
        for (int k : new int[] {1, -1, Integer.MAX_VALUE, Integer.MIN_VALUE}) {
            CHECK.range("22 gotOctet(1, " + k + ", 0)", () -> x.gotOctet(1, k, 0));
            CHECK.range("22 gotOctet(1, " + k + ", -1)", () -> x.gotOctet(1, k, -1));
        }
        Pairs.draft(x, new byte[60]);
        x.write(0);
        x.run(1);
        due("22 60 octets", x.gotOctet(1, 1, -1), 60);
        due("22 the first one stays", x.gotOctet(1, 0, 1), 'b');
    }

    private static void latestHundred() {
        LossyPair x = Pairs.open();
        for (int n = 0; n < 103; n++) {
            Pairs.draft(x, new byte[n % 60]);
            x.draft(1, n);
            x.write(1);
            if (x.net(0) == 50) {
                x.run(1);
            }
        }
        x.run(1);
        due("21 all are counted", x.got(0), 103);
        for (int k = 0; k < 3; k++) {
            int early = k;
            CHECK.range("22 not of the latest 100", () -> x.gotOctet(0, early, 0));
            CHECK.range("22 not of the latest 100", () -> x.gotOctet(0, early, -1));
        }
        for (int k = 3; k < 103; k++) {
            due("22 how many", x.gotOctet(0, k, -1), k % 60 + 1);
            due("22 the last octet", x.gotOctet(0, k, k % 60), k);
        }
        CHECK.range("22 none such", () -> x.gotOctet(0, 103, -1));
        x.make(0, 200);
        due("2 none", x.got(0), 0);
        for (int k : new int[] {-100, -1, 0, 99}) {
            CHECK.range("2 none", () -> x.gotOctet(0, k, -1));
        }
    }

    private static void secret() {
        LossyPair x = Pairs.open();
        for (int which : new int[] {-1, 6, Integer.MAX_VALUE, Integer.MIN_VALUE}) {
            CHECK.range("23 secret(0, " + which + ", 0)", () -> x.secret(0, which, 0));
        }
        for (int i : new int[] {-1, 32, Integer.MAX_VALUE, Integer.MIN_VALUE}) {
            CHECK.range("23 secret(0, 0, " + i + ")", () -> x.secret(0, 0, i));
        }
        LossyPair none = new LossyPair();
        CHECK.range("23 also where there is none", () -> none.secret(0, 6, 0));
        CHECK.range("23 also where there is none", () -> none.secret(0, 0, 32));
        due("23 NONE", none.secret(0, 0, 31), -1);
        int differ = 0;
        for (int i = 0; i < 32; i++) {
            differ += x.secret(0, 0, i) != x.secret(0, 1, i) ? 1 : 0;
            due("23 both have the same", x.secret(0, 5, i), x.secret(1, 5, i));
        }
        due("23 each side has its own", differ > 20 ? 1 : 0, 1);
        Pairs.hit(x, 0, Pairs.sealed(x, 0, 3, 5, 21, Octets.of(1)));
        due("23 one that is DEAD has them yet", x.secret(0, 3, 0), x.secret(1, 3, 0));
    }

    private static void told() {
        LossyPair x = Pairs.open();
        for (int what : new int[] {-1, 13, Integer.MAX_VALUE, Integer.MIN_VALUE}) {
            CHECK.range("24 told(0, " + what + ")", () -> x.told(0, what));
        }
        int[] client = {0, 0, 0, 0, 4, 2, 0, 0, -1, 0, 0, 3, 0};
        int[] server = {0, 0, 0, 0, 2, 2, 0, 0, -1, 0, 1, 2, 0};
        for (int what = 0; what < 13; what++) {
            due("24 told(0, " + what + ")", x.told(0, what), client[what]);
            due("24 told(1, " + what + ")", x.told(1, what), server[what]);
        }
        Pairs.hit(x, 0, Octets.of(99));
        Pairs.hit(x, 0, Octets.openRecord(26, 0, new byte[0]));
        Pairs.hit(x, 0, Octets.of(34, 0, 0, 0, 0));
        Pairs.hit(x, 0, Pairs.sealed(x, 0, 3, 7, 21, Octets.of(0)));
        Pairs.hit(x, 0, Pairs.sealed(x, 0, 3, 8, 21, Octets.of(99)));
        int[] then = {1, 0, 1, 1, 6, 2, 0, 0, 99, 1, 0, 3, 0};
        for (int what = 0; what < 13; what++) {
            due("24 told(0, " + what + ") then", x.told(0, what), then[what]);
        }
    }

    private static void toldSent() {
        LossyPair x = Pairs.begun(1, 100);
        x.deliver(1, 0);
        due("24 RETRY is sent", x.told(1, 5), 1);
        x.deliver(0, 0);
        due("24 two HELLOS", x.told(0, 5), 2);
        x.deliver(1, 0);
        due("24 a FLIGHT of two datagrams", x.told(1, 5), 3);
        x.run(1);
        due("24 FINISHED", x.told(0, 5), 3);
        x.run(1);
        due("24 an ACK", x.told(1, 5), 4);
        Pairs.write(x, 0, "a");
        due("24 DATA", x.told(0, 5), 4);
        x.close(0);
        due("24 CLOSE", x.told(0, 5), 5);
        x.lose(1, 0);
        due("24 a lost one was sent", x.told(0, 5), 5);
    }

    private static void manyObjects() {
        LossyPair x = Pairs.begun(6, 500);
        LossyPair y = Pairs.ready(6, 500);
        x.run(1);
        y.begin();
        y.run(2);
        x.run(1);
        for (int i = 0; i < 32; i++) {
            due("objects do not mix", x.secret(0, 2, i), y.secret(0, 2, i));
        }
        x.make(6, 500);
        x.key(0, 1, 2);
        x.key(1, 1, 2);
        x.name(0, 77, 5);
        x.name(1, 77, 6);
        x.begin();
        x.run(2);
        for (int i = 0; i < 32; i++) {
            due("2 all anew: the same again", x.secret(1, 3, i), y.secret(0, 3, i));
        }
    }

    /** Calls with all kinds of arguments in a few states: each throws only what is in its head. */
    private static void strangeCalls() {
        int[] odd = {Integer.MIN_VALUE, -500, -2, -1, 0, 1, 2, 3, 59, 60, 61, 99, 500, 65536, Integer.MAX_VALUE};
        LossyPair[] pairs = {new LossyPair(), Pairs.begun(0, 100), Pairs.clientOpen(), Pairs.open()};
        for (LossyPair x : pairs) {
            for (int a : odd) {
                for (int b : odd) {
                    only("size", () -> x.size(a, b));
                    only("deliver", () -> x.deliver(a, b));
                    only("lose", () -> x.lose(a, b));
                    only("twice", () -> x.twice(a, b));
                    only("octet", () -> x.octet(a, b, a));
                    only("forge", () -> x.forge(a, b, b, a));
                    only("gotOctet", () -> x.gotOctet(a, b, a));
                    only("secret", () -> x.secret(a, b, b));
                    only("told", () -> x.told(a, b));
                    only("draft", () -> x.draft(a, b));
                    only("write", () -> x.write(a));
                    only("inject", () -> x.inject(a));
                    only("close", () -> x.close(a));
                    only("make", () -> x.make(a, b));
                }
            }
        }
    }

    private static void only(String what, Runnable call) {
        int wrong = 0;
        try {
            call.run();
        } catch (RuntimeException e) {
            Class<?> c = e.getClass();
            wrong = c == IndexOutOfBoundsException.class || c == IllegalStateException.class
                    || c == IllegalArgumentException.class ? 0 : 1;
        }
        due(what + " throws what its head names", wrong, 0);
    }
}
