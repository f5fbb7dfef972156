import java.util.Arrays;

/** MESSAGES: HELLO, RETRY, ANSWER, SETTINGS, FINISHED, the ALERTS they raise, FRAGMENTS (promises 7, 14, 20, 23, 24). */
public final class MessageTest {
    private static final Check CHECK = new Check("MessageTest");

    private MessageTest() {
    }

    public static void main(String[] args) {
        cookie();
        cookieIsNotRight();
        helloAlerts();
        retryTwice();
        shareUnwanted();
        finishedNotRight();
        serverHearsWrongFinished();
        notAwaited();
        helloAsNext();
        malformedFragments();
        keptInAnyOrder();
        keptFourAbove();
        keptTellsKind();
        overlapping();
        secrets();
        CHECK.end();
    }

    private static void due(String what, long got, long want) {
        CHECK.due(what, got, want);
    }

    private static void same(String what, byte[] got, byte[] want) {
        CHECK.due(what, Arrays.equals(got, want) ? 1 : 0, 1);
    }

    private static byte[] handshake(int number, byte[] fragment) {
        return Octets.openRecord(22, number, fragment);
    }

    private static byte[] whole(int kind, int number, byte[] body) {
        return Octets.fragment(kind, body.length, number, 0, body);
    }

    private static void cookie() {
        LossyPair x = Pairs.begun(3, 100);
        byte[] hello = Pairs.datagram(x, 1, 0);
        x.deliver(1, 0);
        byte[] random = Octets.part(hello, 14, 30);
        byte[] cookie = Octets.part(Octets.mac(Octets.u8(6), random), 0, 16);
        same("RETRY", Pairs.datagram(x, 0, 0), handshake(0, whole(6, 0, cookie)));
        due("the server waits as before", x.state(1), 0);
        due("it takes 0 next", x.told(1, 11), 0);
        due("no FLIGHT", x.told(1, 7), 0);
        due("sent", x.told(1, 5), 1);
        x.deliver(0, 0);
        due("the client took RETRY", x.told(0, 11), 1);
        due("77 octets", x.told(0, 12), 77);
        due("LIST begins anew", x.told(0, 10), 0);
        byte[] second = Pairs.datagram(x, 1, 0);
        same("the head of HELLO", Octets.part(second, 0, 14), Octets.of(22, 0, 0, 1, 0, 85, 1, 0, 77, 1, 0, 0, 0, 77));
        same("RANDOM as before", Octets.part(second, 14, 30), random);
        same("COOKIE", Octets.part(second, 30, 47), Octets.join(Octets.of(16), cookie));
        same("SHARE and NAME as before", Octets.part(second, 47, 59), Octets.part(hello, 31, 43));
        byte[] key = Octets.join(Octets.u8(1), Octets.u8(2));
        byte[] binder = Octets.mac(Octets.expand(Octets.mac(new byte[32], key), "binder"),
                Octets.hash(Octets.of(1, 0, 77), Octets.part(second, 14, 59)));
        same("BINDER", Octets.part(second, 59, 91), binder);
        x.deliver(1, 0);
        due("answered", x.state(1), 1);
        due("the NUMBER behind HELLO's", x.told(1, 11), 2);
        x.run(3);
        due("OPEN", x.state(0) * 10 + x.state(1), 22);
        due("the client took 0 to 3", x.told(0, 11), 4);
        due("the server took up to 2", x.told(1, 11), 3);
    }

    private static void cookieIsNotRight() {
        LossyPair x = Pairs.begun(1, 500);
        x.run(1);
        x.forge(1, 0, 40, 1);
        x.deliver(1, 0);
        due("RETRY once more", x.octet(0, 0, 6), 6);
        due("with HELLO's NUMBER", x.octet(0, 0, 9), 1);
        due("the server waits", x.state(1), 0);
        due("no ALERT", x.told(1, 8), -1);
        x.deliver(0, 0);
        due("a second RETRY is not awaited", x.told(0, 8), 10);
        due("DEAD", x.state(0), 4);
        due("by EPOCH 0", x.octet(1, 0, 0), 21);
        x.deliver(1, 0);
        due("the server hears it", x.told(1, 8), 10);
        LossyPair y = Pairs.begun(1, 500);
        y.run(1);
        y.forge(1, 0, 20, 1);
        y.deliver(1, 0);
        due("another RANDOM, another COOKIE", y.octet(0, 0, 6), 6);
    }

    private static void helloAlert(String what, int wants, int octet, int alert) {
        LossyPair x = Pairs.begun(wants, 500);
        x.forge(1, 0, octet, 4);
        due(what + " CAME", x.deliver(1, 0), 1);
        due(what, x.told(1, 8), alert);
        same(what + " is sent", Pairs.datagram(x, 0, 0), Octets.openRecord(21, 0, Octets.of(alert)));
        due(what + ": the server waits", x.state(1), 0);
        due(what + ": it takes 0 next", x.told(1, 11), 0);
        x.lose(0, 0);
        Pairs.ticks(x, 4);
        x.run(2);
        due(what + ": HELLO sent again is answered", x.state(1), 2);
        due(what + " is told yet", x.told(1, 8), alert);
        LossyPair y = Pairs.begun(wants, 500);
        y.forge(1, 0, octet, 4);
        y.run(1);
        due(what + " comes to the client", y.state(0), 4);
        due(what + " comes to the client", y.told(0, 8), alert);
    }

    private static void helloAlerts() {
        helloAlert("u1 of COOKIE", 0, 30, 10);
        helloAlert("NAME", 0, 42, 40);
        helloAlert("the first octet of NAME", 0, 35, 40);
        helloAlert("BINDER", 0, 74, 51);
        helloAlert("RANDOM", 0, 14, 51);
        helloAlert("SHARE", 6, 34, 51);
        LossyPair x = Pairs.begun(1, 500);
        x.forge(1, 0, 42, 1);
        x.deliver(1, 0);
        due("COOKIE goes before NAME", x.told(1, 8), -1);
        LossyPair y = Pairs.begun(1, 500);
        y.forge(1, 0, 30, 16);
        y.deliver(1, 0);
        due("u1 goes before COOKIE", y.told(1, 8), 10);
        LossyPair z = Pairs.begun(0, 500);
        z.forge(1, 0, 42, 1);
        z.forge(1, 0, 74, 1);
        z.deliver(1, 0);
        due("NAME goes before BINDER", z.told(1, 8), 40);
        LossyPair w = Pairs.begun(0, 500);
        Pairs.hit(w, 1, handshake(9, whole(1, 1, new byte[77])));
        due("77 octets without a COOKIE", w.told(1, 8), 10);
    }

    private static void retryTwice() {
        LossyPair x = Pairs.begun(1, 500);
        x.twice(1, 0);
        x.deliver(1, 0);
        due("STALE", x.deliver(1, 0), 0);
        due("one RETRY", x.net(0), 1);
        Pairs.ticks(x, 4);
        x.deliver(1, 0);
        due("HELLO again: RETRY again", x.net(0), 2);
        x.deliver(0, 0);
        due("HELLO with COOKIE", x.told(0, 12), 77);
        due("a RETRY that was taken", x.deliver(0, 0), 1);
        due("is nothing", x.state(0), 1);
        due("is nothing but listed", x.told(0, 10), 1);
        LossyPair y = Pairs.begun(0, 500);
        Pairs.hit(y, 0, handshake(9, whole(6, 0, new byte[16])));
        due("a RETRY that the server did not send", y.told(0, 12), 77);
        y.deliver(1, 1);
        due("a COOKIE that is not wanted is fine", y.state(1), 1);
    }

    private static void shareUnwanted() {
        LossyPair x = Pairs.begun(4, 500);
        Pairs.hit(x, 0, handshake(9, whole(2, 0, Octets.join(new byte[16], Octets.u4(1)))));
        due("ALERT 47", x.told(0, 8), 47);
        due("DEAD", x.state(0), 4);
        due("it was taken", x.told(0, 11), 1);
        due("no SECRETS", x.secret(0, 0, 0), -1);
        same("by EPOCH 0", Pairs.datagram(x, 1, 1), Octets.openRecord(21, 1, Octets.of(47)));
        due("no TIMER", x.told(0, 7), 0);
        LossyPair y = Pairs.begun(2, 500);
        Pairs.hit(y, 0, handshake(9, whole(2, 0, Octets.join(new byte[16], Octets.u4(0xfffffffeL)))));
        due("a SHARE that is wanted", y.state(0), 1);
        due("SECRETS", y.secret(0, 0, 0) >= 0 ? 1 : 0, 1);
        // 4294967294 is 0 modulo 2147483647.
        byte[] early = Octets.mac(new byte[32], Octets.u8(1), Octets.u8(2));
        same("HAND", Pairs.secret(y, 0, 4), Octets.mac(Octets.expand(early, "derived"), Octets.u4(0)));
        due("HELLO is OVER", y.told(0, 7), 0);
        LossyPair z = Pairs.begun(2, 500);
        z.run(2);
        due("none though it is wanted", z.state(0) * 10 + z.state(1), 22);
    }

    /** A client that took ANSWER and SETTINGS, at an MTU of 100, with FINISHED alone on its way. */
    private static LossyPair awaitingFinished() {
        LossyPair x = Pairs.begun(0, 100);
        x.deliver(1, 0);
        x.deliver(0, 0);
        due("FINISHED did not come as a whole", x.state(0), 1);
        due("ANSWER and SETTINGS are taken", x.told(0, 11), 2);
        Pairs.loseAll(x);
        return x;
    }

    private static void finishedNotRight() {
        LossyPair x = awaitingFinished();
        Pairs.hit(x, 0, Pairs.sealed(x, 0, 2, 40, 22, whole(20, 2, new byte[32])));
        due("ALERT 51, if the kept octets are as before", x.told(0, 8), 51);
        due("DEAD", x.state(0), 4);
        due("it was taken", x.told(0, 11), 3);
        due("no SECRETS of EPOCH 3", x.secret(0, 2, 0), -1);
        due("SECRETS of EPOCH 2 stay", x.secret(0, 0, 0) >= 0 ? 1 : 0, 1);
        byte[] want = Octets.sealedRecord(Pairs.secret(x, 0, 0), 2, 0, 21, Octets.of(51));
        same("by EPOCH 2", Pairs.datagram(x, 1, 0), want);
        x.deliver(1, 0);
        due("the server hears it", x.told(1, 8), 51);
        due("DEAD", x.state(1), 4);
    }

    private static void serverHearsWrongFinished() {
        LossyPair x = Pairs.clientOpen();
        Pairs.hit(x, 1, Pairs.sealed(x, 1, 2, 40, 22, whole(20, 1, new byte[32])));
        due("ALERT 51", x.told(1, 8), 51);
        due("DEAD", x.state(1), 4);
        due("it was taken", x.told(1, 11), 2);
        byte[] want = Octets.sealedRecord(Pairs.secret(x, 1, 3), 3, 0, 21, Octets.of(51));
        same("by EPOCH 3", Pairs.datagram(x, 0, 0), want);
        x.deliver(0, 0);
        due("the client hears it", x.told(0, 8), 51);
        due("DEAD", x.state(0), 4);
    }

    private static void notAwaited() {
        LossyPair x = Pairs.begun(0, 100);
        x.deliver(1, 0);
        Pairs.hit(x, 0, handshake(9, whole(2, 1, new byte[20])));
        due("kept: not yet next", x.state(0), 1);
        x.deliver(0, 0);
        due("ANSWER in place of SETTINGS", x.told(0, 8), 10);
        due("DEAD", x.state(0), 4);
        byte[] settings = Octets.of(0, 200);
        LossyPair y = awaitingFinishedWithoutAny();
        Pairs.hit(y, 0, Pairs.sealed(y, 0, 2, 41, 22, whole(8, 2, settings)));
        due("SETTINGS in place of FINISHED", y.told(0, 8), 10);
        due("by EPOCH 2", y.octet(1, 0, 0), 34);
        LossyPair z = awaitingSettings();
        Pairs.hit(z, 0, Pairs.sealed(z, 0, 2, 40, 22, whole(20, 1, new byte[32])));
        due("FINISHED in place of SETTINGS", z.told(0, 8), 10);
        LossyPair w = awaitingSettings();
        Pairs.hit(w, 0, handshake(40, whole(6, 1, new byte[16])));
        due("RETRY in place of SETTINGS", w.told(0, 8), 10);
    }

    private static LossyPair awaitingSettings() {
        LossyPair x = Pairs.begun(0, 500);
        Pairs.hit(x, 0, handshake(9, whole(2, 0, new byte[20])));
        due("ANSWER is taken", x.told(0, 11), 1);
        Pairs.loseAll(x);
        return x;
    }

    private static LossyPair awaitingFinishedWithoutAny() {
        LossyPair x = awaitingSettings();
        Pairs.hit(x, 0, Pairs.sealed(x, 0, 2, 40, 22, whole(8, 1, Octets.of(1, 2))));
        due("SETTINGS is taken", x.told(0, 11), 2);
        due("no ALERT", x.told(0, 8), -1);
        return x;
    }

    private static void helloAsNext() {
        LossyPair x = Pairs.begun(0, 500);
        x.deliver(1, 0);
        Pairs.hit(x, 1, handshake(9, whole(1, 1, new byte[61])));
        due("HELLO in place of FINISHED", x.told(1, 8), 10);
        due("DEAD", x.state(1), 4);
        due("by EPOCH 3", x.octet(0, 1, 0), 35);
    }

    private static void malformed(String what, int side, int epoch, byte[] fragment, boolean sound) {
        LossyPair x = Pairs.begun(0, 500);
        x.deliver(1, 0);
        if (side == 0) {
            x = awaitingSettings();
        }
        byte[] record = epoch == 0
                ? handshake(50, fragment)
                : Octets.sealedRecord(Pairs.secret(x, side, (epoch - 2) * 2 + 1 - side), epoch, 50, 22, fragment);
        int listed = x.told(side, 10);
        due(what + " CAME", Pairs.hit(x, side, record), 1);
        due(what + " MALFORMED", x.told(side, 0), sound ? 0 : 1);
        due(what + " in LIST", x.told(side, 10), sound ? listed + 1 : listed);
    }

    private static void malformedFragments() {
        byte[] hello = whole(1, 0, new byte[61]);
        malformed("HELLO", 1, 0, hello, true);
        malformed("HELLO of 77", 1, 0, whole(1, 0, new byte[77]), true);
        malformed("HELLO of 60", 1, 0, whole(1, 0, new byte[60]), false);
        malformed("HELLO of 62", 1, 0, whole(1, 0, new byte[62]), false);
        malformed("HELLO with NUMBER 2", 1, 0, whole(1, 2, new byte[61]), false);
        malformed("a part of HELLO", 1, 0, Octets.fragment(1, 61, 0, 0, new byte[60]), false);
        malformed("a part of HELLO", 1, 0, Octets.fragment(1, 61, 0, 1, new byte[60]), false);
        malformed("HELLO by EPOCH 2", 1, 2, hello, false);
        malformed("HELLO by EPOCH 3", 1, 3, hello, false);
        malformed("HELLO to the client", 0, 0, hello, false);
        malformed("one octet more", 1, 0, Octets.join(hello, Octets.of(0)), false);
        malformed("one octet less", 1, 0, Octets.part(hello, 0, 68), false);
        byte[] finished = Octets.fragment(20, 32, 5, 31, new byte[1]);
        malformed("FINISHED", 1, 2, finished, true);
        malformed("FINISHED by EPOCH 0", 1, 0, finished, false);
        malformed("FINISHED by EPOCH 3", 1, 3, finished, false);
        malformed("FINISHED of 31", 1, 2, Octets.fragment(20, 31, 5, 0, new byte[1]), false);
        malformed("FINISHED, beyond it", 1, 2, Octets.fragment(20, 32, 5, 31, new byte[2]), false);
        malformed("FINISHED, far beyond it", 1, 2, Octets.fragment(20, 32, 5, 65535, new byte[1]), false);
        malformed("FINISHED, none", 1, 2, Octets.fragment(20, 32, 5, 0, new byte[0]), false);
        malformed("FINISHED to the client", 0, 2, finished, true);
        malformed("FINISHED to the client by EPOCH 0", 0, 0, finished, false);
        malformed("RETRY", 0, 0, Octets.fragment(6, 16, 4, 0, new byte[3]), true);
        malformed("RETRY of 17", 0, 0, Octets.fragment(6, 17, 4, 0, new byte[3]), false);
        malformed("RETRY by EPOCH 2", 0, 2, Octets.fragment(6, 16, 4, 0, new byte[3]), false);
        malformed("RETRY to the server", 1, 0, Octets.fragment(6, 16, 4, 0, new byte[3]), false);
        malformed("ANSWER", 0, 0, Octets.fragment(2, 20, 4, 19, new byte[1]), true);
        malformed("ANSWER of 21", 0, 0, Octets.fragment(2, 21, 4, 19, new byte[1]), false);
        malformed("ANSWER by EPOCH 2", 0, 2, Octets.fragment(2, 20, 4, 19, new byte[1]), false);
        malformed("SETTINGS of 2", 0, 2, Octets.fragment(8, 2, 4, 0, new byte[1]), true);
        malformed("SETTINGS of 1", 0, 2, Octets.fragment(8, 1, 4, 0, new byte[1]), false);
        malformed("SETTINGS of 152", 0, 2, Octets.fragment(8, 152, 4, 151, new byte[1]), true);
        malformed("SETTINGS of 153", 0, 2, Octets.fragment(8, 153, 4, 0, new byte[1]), false);
        malformed("SETTINGS by EPOCH 0", 0, 0, Octets.fragment(8, 2, 4, 0, new byte[1]), false);
        malformed("SETTINGS to the server", 1, 2, Octets.fragment(8, 2, 4, 0, new byte[1]), false);
        malformed("an unknown kind", 0, 0, Octets.fragment(3, 2, 4, 0, new byte[1]), false);
        malformed("an unknown kind", 1, 2, Octets.fragment(0, 2, 4, 0, new byte[1]), false);
        malformed("a NUMBER far above", 0, 2, Octets.fragment(20, 32, 255, 0, new byte[1]), true);
    }

    private static LossyPair greeted(int many) {
        LossyPair x = Pairs.ready(0, 100);
        Pairs.draft(x, new byte[many]);
        x.greet();
        x.begin();
        x.deliver(1, 0);
        return x;
    }

    private static void keptInAnyOrder() {
        LossyPair x = greeted(150);
        int many = x.net(0);
        due("several datagrams", many, 4);
        for (int i = many - 1; i > 0; i--) {
            due("EARLY", x.deliver(0, i), 0);
        }
        due("ANSWER and a part of SETTINGS", x.deliver(0, 0), 2);
        due("EARLY ones", x.told(0, 1), many);
        Pairs.ticks(x, 4);
        due("SENT AGAIN", x.told(1, 6), 1);
        for (int i = x.net(0) - 1; i > 0; i--) {
            due("it waits for more", x.state(0), 1);
            x.deliver(0, i);
        }
        due("all octets came, those of the first datagram before", x.state(0), 2);
    }

    private static void keptFourAbove() {
        LossyPair x = awaitingSettings();
        Pairs.hit(x, 0, Pairs.sealed(x, 0, 2, 40, 22, Octets.fragment(20, 32, 5, 0, new byte[32])));
        Pairs.hit(x, 0, Pairs.sealed(x, 0, 2, 41, 22, Octets.fragment(8, 2, 5, 0, new byte[1])));
        due("4 above is kept: another kind is MALFORMED", x.told(0, 0), 1);
        Pairs.hit(x, 0, Pairs.sealed(x, 0, 2, 42, 22, Octets.fragment(20, 32, 6, 0, new byte[32])));
        Pairs.hit(x, 0, Pairs.sealed(x, 0, 2, 43, 22, Octets.fragment(8, 2, 6, 0, new byte[1])));
        due("5 above is not kept: both are nothing", x.told(0, 0), 1);
        due("LIST: ANSWER and three of these", x.told(0, 10), 4);
        due("not ALERTED", x.state(0), 1);
    }

    private static void keptTellsKind() {
        LossyPair x = Pairs.begun(0, 500);
        Pairs.hit(x, 0, handshake(40, Octets.fragment(2, 20, 0, 5, new byte[5])));
        Pairs.hit(x, 0, handshake(41, whole(6, 0, new byte[16])));
        due("another kind", x.told(0, 0), 1);
        due("RETRY is not taken", x.told(0, 11), 0);
        Pairs.hit(x, 0, handshake(42, Octets.fragment(2, 20, 0, 0, new byte[5])));
        due("octets lack yet", x.told(0, 11), 0);
        Pairs.hit(x, 0, handshake(43, Octets.fragment(2, 20, 0, 10, new byte[10])));
        due("ANSWER is taken", x.told(0, 11), 1);
        Pairs.hit(x, 0, handshake(44, whole(6, 0, new byte[16])));
        due("taken: it is kept no more", x.told(0, 0), 1);
        Pairs.hit(x, 0, Pairs.sealed(x, 0, 2, 1, 22, Octets.fragment(8, 30, 1, 0, new byte[1])));
        Pairs.hit(x, 0, Pairs.sealed(x, 0, 2, 2, 22, Octets.fragment(8, 31, 1, 1, new byte[30])));
        due("another length", x.told(0, 0), 2);
        Pairs.hit(x, 0, Pairs.sealed(x, 0, 2, 3, 22, Octets.fragment(8, 30, 1, 1, new byte[29])));
        due("SETTINGS is taken", x.told(0, 11), 2);
    }

    private static void overlapping() {
        LossyPair x = Pairs.begun(0, 500);
        x.deliver(1, 0);
        byte[] answer = Octets.part(Pairs.datagram(x, 0, 0), 14, 34);
        Pairs.hit(x, 0, handshake(40, Octets.fragment(2, 20, 0, 0, Octets.part(answer, 0, 12))));
        Pairs.hit(x, 0, handshake(41, Octets.fragment(2, 20, 0, 3, Octets.part(answer, 3, 15))));
        due("octets lack yet", x.told(0, 11), 0);
        Pairs.hit(x, 0, handshake(42, Octets.fragment(2, 20, 0, 14, Octets.part(answer, 14, 20))));
        due("in any FRAGMENTS", x.told(0, 11), 1);
        x.deliver(0, 0);
        due("the rest comes", x.state(0), 2);
    }

    private static void secrets() {
        for (int wants : new int[] {0, 2, 4, 6, 7}) {
            LossyPair x = Pairs.begun(wants, 500);
            for (int which = 0; which < 6; which++) {
                due("23 NONE before HELLO is answered", x.secret(0, which, 0) + x.secret(1, which, 0), -2);
            }
            x.run(3);
            Model m = new Model(wants, 500);
            for (int side = 0; side < 2; side++) {
                m.key(side, 1, 2);
                m.name(side, 77, 5 + side);
            }
            m.begin();
            m.run(3);
            for (int side = 0; side < 2; side++) {
                for (int which = 0; which < 6; which++) {
                    same("23 secret " + which, Pairs.secret(x, side, which), m.sides[side].secrets[which]);
                }
            }
        }
        LossyPair x = Pairs.begun(0, 100);
        x.deliver(1, 0);
        x.deliver(0, 0);
        due("23 the server has EPOCH 3", x.secret(1, 2, 0) >= 0 && x.secret(1, 3, 0) >= 0 ? 1 : 0, 1);
        due("23 the client not yet", x.secret(0, 2, 0) + x.secret(0, 3, 0), -2);
        due("23 but EPOCH 2 and HAND", x.secret(0, 0, 0) >= 0 && x.secret(0, 1, 0) >= 0 && x.secret(0, 4, 0) >= 0 ? 1 : 0, 1);
    }
}
