import java.util.Arrays;

/**
 * Part 3 of the document's terms, MESSAGES: the sentences that name an edge, each with the calls that bring it about;
 * the sentence stands above its test.
 */
public final class MessageEdgesTest {
    private static final int MALFORMED = 0;
    private static final int CAME = 4;
    private static final int ALERT = 8;
    private static final int LISTED = 10;
    private static final int NEXT = 11;
    private static final int HELLO = 1;
    private static final int ANSWER = 2;
    private static final int RETRY = 6;
    private static final int SETTINGS = 8;
    private static final int FINISHED = 20;
    private static final Check CHECK = new Check("MessageEdgesTest");

    private MessageEdgesTest() {
    }

    public static void main(String[] args) {
        notJustSoLong();
        kindsOfEachSide();
        lengthsOfKinds();
        fromAndHowMany();
        helloNotWhole();
        helloNumbers();
        howLongTheCookieIs();
        cookieOctets();
        cookieNotWanted();
        nameOctets();
        binderOctets();
        waitsForHelloAsBefore();
        numberOfHello();
        settingsTellTheMtu();
        transcripts();
        retryOnce();
        shareUnwanted();
        serverWithoutShare();
        finishedToClient();
        finishedToServer();
        allOctetsCame();
        takenInOrder();
        takenAlsoWithAlert();
        firstTellsKindAndLength();
        fourAbove();
        keptWhileItWaits();
        notAwaited();
        notZeroIsDead();
        deadDoesNothing();
        CHECK.end();
    }

    private static void due(String what, long got, long want) {
        CHECK.due(what, got, want);
    }

    private static byte[] whole(int kind, int number, byte[] body) {
        return Octets.fragment(kind, body.length, number, 0, body);
    }

    /** A HANDSHAKE record with a FRAGMENT, to a side, by an EPOCH of which it has KEYS. */
    private static byte[] record(LossyPair x, int side, int epoch, int number, byte[] fragment) {
        return epoch == 0
                ? Octets.openRecord(22, number, fragment)
                : Pairs.sealed(x, side, epoch, number, 22, fragment);
    }

    private static int epochOf(int kind) {
        return kind == SETTINGS || kind == FINISHED ? 2 : 0;
    }

    /** Lets a FRAGMENT come by the EPOCH of its kind. */
    private static int hit(LossyPair x, int side, int number, byte[] fragment) {
        return Pairs.hit(x, side, record(x, side, epochOf(fragment[0]), number, fragment));
    }

    /** A side that waits for more and has KEYS of EPOCH 2: the client for SETTINGS (1), the server for FINISHED (1). */
    private static LossyPair waiting(int side) {
        LossyPair x = Pairs.begun(0, 500);
        x.deliver(1, 0);
        if (side == 0) {
            hit(x, 0, 40, Octets.part(Pairs.datagram(x, 0, 0), 6, 34));
        }
        Pairs.loseAll(x);
        return x;
    }

    /** A FRAGMENT that comes is MALFORMED, or not; then it is in LIST. */
    private static void sound(String what, int side, int epoch, byte[] fragment, boolean sound) {
        LossyPair x = waiting(side);
        if (epoch == 3 && side == 0) {
            x = Pairs.clientOpen();
        }
        int came = x.told(side, CAME);
        int listed = x.told(side, LISTED);
        due(what + ": it comes", Pairs.hit(x, side, record(x, side, epoch, 50, fragment)), 1);
        due(what + ": CAME", x.told(side, CAME), came + 1);
        due(what + ": MALFORMED", x.told(side, MALFORMED), sound ? 0 : 1);
        due(what + ": LIST", x.told(side, LISTED), sound ? listed + 1 : listed);
    }

    /** "MALFORMED: a FRAGMENT that is not just so long" */
    private static void notJustSoLong() {
        for (int many = 0; many <= 8; many++) {
            sound("3 a head of " + many, 1, 2, Octets.part(Octets.fragment(FINISHED, 32, 1, 0, new byte[0]), 0, many), false);
        }
        byte[] one = Octets.fragment(FINISHED, 32, 1, 0, new byte[1]);
        sound("3 just so long", 1, 2, one, true);
        sound("3 one more", 1, 2, Octets.join(one, new byte[1]), false);
        byte[] all = whole(FINISHED, 5, new byte[32]);
        sound("3 just so long", 1, 2, all, true);
        sound("3 one less", 1, 2, Octets.part(all, 0, 39), false);
        sound("3 one more", 1, 2, Octets.join(all, new byte[1]), false);
        byte[] hello = whole(HELLO, 0, new byte[61]);
        sound("3 HELLO", 1, 0, hello, true);
        sound("3 HELLO and one more", 1, 0, Octets.join(hello, new byte[1]), false);
        sound("3 HELLO and one less", 1, 0, Octets.part(hello, 0, 68), false);
        byte[] huge = Octets.join(Octets.of(FINISHED, 0, 32, 1, 0, 0, 255, 255), new byte[32]);
        sound("3 65535 are told", 1, 2, huge, false);
    }

    private static boolean sends(int to, int kind, int epoch, int length) {
        switch (kind) {
            case HELLO:
                return to == 1 && epoch == 0 && (length == 61 || length == 77);
            case ANSWER:
                return to == 0 && epoch == 0 && length == 20;
            case RETRY:
                return to == 0 && epoch == 0 && length == 16;
            case SETTINGS:
                return to == 0 && epoch == 2 && length >= 2 && length <= 152;
            case FINISHED:
                return epoch == 2 && length == 32;
            default:
                return false;
        }
    }

    /** "a kind that the other side does not send by this EPOCH" */
    private static void kindsOfEachSide() {
        for (int kind = 0; kind < 256; kind++) {
            int length = kind == HELLO ? 61 : kind == ANSWER ? 20 : kind == RETRY ? 16 : 32;
            // HELLO has a NUMBER up to 1 alone; of the others a NUMBER far above is nothing, MALFORMED or not.
            byte[] fragment = whole(kind, kind == HELLO ? 0 : 200, new byte[length]);
            for (int side = 0; side < 2; side++) {
                for (int epoch : new int[] {0, 2, 3}) {
                    sound("3 kind " + kind + " to " + side + " by " + epoch, side, epoch, fragment, sends(side, kind, epoch, length));
                }
            }
        }
    }

    /** "a length that the kind can't have" (HELLO 61 or 77, ANSWER 20, RETRY 16, SETTINGS 2 to 152, FINISHED 32) */
    private static void lengthsOfKinds() {
        int[] lengths = {0, 1, 2, 3, 15, 16, 17, 19, 20, 21, 31, 32, 33, 60, 61, 62, 76, 77, 78, 151, 152, 153, 154,
            256 + 16, 256 + 20, 256 + 32, 256 + 61, 256 + 77, 256 + 152};
        for (int kind : new int[] {HELLO, ANSWER, RETRY, SETTINGS, FINISHED}) {
            int side = kind == HELLO ? 1 : 0;
            for (int length : lengths) {
                byte[] octets = new byte[kind == HELLO ? length : Math.min(length, 1)];
                byte[] fragment = Octets.fragment(kind, length, kind == HELLO ? 0 : 200, 0, octets);
                boolean right = sends(side, kind, epochOf(kind), length);
                sound("3 kind " + kind + " of " + length, side, epochOf(kind), fragment, right);
            }
            byte[] longest = Octets.fragment(kind, 65535, kind == HELLO ? 0 : 200, 0, new byte[1]);
            sound("3 kind " + kind + " of 65535", side, epochOf(kind), longest, false);
        }
    }

    private static void part(int kind, int length, int from, int many, boolean sound) {
        String what = "3 " + many + " from " + from + " of " + length;
        byte[] fragment = Octets.fragment(kind, length, 200, from, new byte[many]);
        sound(what, 0, epochOf(kind), fragment, sound);
    }

    /** "from and how many beyond it, or none" */
    private static void fromAndHowMany() {
        int[][] kinds = {{ANSWER, 20}, {RETRY, 16}, {SETTINGS, 2}, {SETTINGS, 152}, {FINISHED, 32}};
        for (int[] k : kinds) {
            int length = k[1];
            part(k[0], length, 0, length, true);
            part(k[0], length, 0, length + 1, false);
            part(k[0], length, 1, length - 1, true);
            part(k[0], length, 1, length, false);
            part(k[0], length, length - 1, 1, true);
            part(k[0], length, length - 1, 2, false);
            part(k[0], length, length, 1, false);
            part(k[0], length, 65535, 1, false);
            part(k[0], length, 65536 - 1, length, false);
            part(k[0], length, 0, 0, false);
            part(k[0], length, length, 0, false);
            part(k[0], length, 65535, 0, false);
        }
    }

    /** "a HELLO not whole" */
    private static void helloNotWhole() {
        for (int length : new int[] {61, 77}) {
            sound("3 a whole HELLO", 1, 0, whole(HELLO, 0, new byte[length]), true);
            sound("3 all but the last", 1, 0, Octets.fragment(HELLO, length, 0, 0, new byte[length - 1]), false);
            sound("3 all but the first", 1, 0, Octets.fragment(HELLO, length, 0, 1, new byte[length - 1]), false);
            sound("3 one octet", 1, 0, Octets.fragment(HELLO, length, 0, 0, new byte[1]), false);
            LossyPair x = Pairs.ready(0, 500);
            Pairs.hit(x, 1, Octets.openRecord(22, 9, Octets.fragment(HELLO, length, 0, 0, new byte[length - 1])));
            due("3 to a server that waits for it", x.told(1, MALFORMED), 1);
            due("3 nothing is sent", x.told(1, 5), 0);
        }
    }

    /** "or with a NUMBER above 1." */
    private static void helloNumbers() {
        for (int number : new int[] {0, 1, 2, 3, 128, 254, 255}) {
            LossyPair x = Pairs.begun(0, 500);
            x.forge(1, 0, 9, number);
            due("3 it comes", x.deliver(1, 0), 1);
            due("3 NUMBER " + number + ": MALFORMED", x.told(1, MALFORMED), number > 1 ? 1 : 0);
            due("3 NUMBER " + number + ": answered", x.state(1), number > 1 ? 0 : 1);
            due("3 NUMBER " + number + ": next", x.told(1, NEXT), number > 1 ? 0 : number + 1);
        }
    }

    /** "u1 does not tell what is there: ALERT 10." */
    private static void howLongTheCookieIs() {
        for (int wants = 0; wants <= 1; wants++) {
            for (int length : new int[] {61, 77}) {
                for (int u1 = 0; u1 < 256; u1++) {
                    LossyPair x = Pairs.ready(wants, 500);
                    byte[] body = new byte[length];
                    body[16] = (byte) u1;
                    Pairs.hit(x, 1, Octets.openRecord(22, 9, whole(HELLO, 1, body)));
                    boolean told = u1 == length - 61;
                    // What is right so far: no COOKIE as wanted, or another NAME.
                    due("3 u1 " + u1 + " of " + length, x.told(1, ALERT), !told ? 10 : wants == 1 ? -1 : 40);
                    due("3 the server waits", x.state(1), 0);
                }
            }
        }
    }

    /** A pair of which the server wants COOKIES, and HELLO with the right one is on its way. */
    private static LossyPair withCookie() {
        LossyPair x = Pairs.begun(1, 500);
        x.deliver(1, 0);
        x.deliver(0, 0);
        return x;
    }

    /** "HELLO has not the first 16 octets of MAC(its SEED, RANDOM of HELLO) as COOKIE: RETRY with these" */
    private static void cookieOctets() {
        for (int k = 0; k < 16; k++) {
            LossyPair x = withCookie();
            x.forge(1, 0, 6 + 8 + 17 + k, 128);
            x.deliver(1, 0);
            due("3 octet " + k + ": RETRY", x.octet(0, 0, 6), RETRY);
            due("3 octet " + k + ": HELLO's NUMBER", x.octet(0, 0, 9), 1);
            due("3 that is all", x.state(1) + x.told(1, NEXT) + x.told(1, 7) + x.told(1, LISTED), 0);
            due("3 no ALERT", x.told(1, ALERT), -1);
        }
        LossyPair x = Pairs.begun(1, 500);
        byte[] random = Octets.part(Pairs.datagram(x, 1, 0), 14, 30);
        x.deliver(1, 0);
        CHECK.same("3 these", Octets.part(Pairs.datagram(x, 0, 0), 14, 30), Octets.part(Octets.mac(Octets.u8(6), random), 0, 16));
        x.deliver(0, 0);
        x.deliver(1, 0);
        due("3 the right one", x.state(1), 1);
        LossyPair none = Pairs.begun(1, 500);
        none.forge(1, 0, 9, 1);
        none.deliver(1, 0);
        due("3 none, with NUMBER 1: RETRY", none.octet(0, 0, 6), RETRY);
        due("3 with NUMBER 1", none.octet(0, 0, 9), 1);
    }

    /** "It wants COOKIES, and": one that wants none looks at none. */
    private static void cookieNotWanted() {
        LossyPair x = Pairs.begun(0, 500);
        hit(x, 0, 9, whole(RETRY, 0, new byte[16]));
        due("3 HELLO with a COOKIE that nobody gave", x.size(1, 1), 6 + 8 + 77);
        x.deliver(1, 1);
        due("3 it is answered", x.state(1), 1);
        x.deliver(0, 0);
        due("3 OPEN", x.state(0), 2);
    }

    /** "Another NAME than its own: ALERT 40." */
    private static void nameOctets() {
        for (int k = 0; k < 8; k++) {
            LossyPair x = Pairs.begun(0, 500);
            x.forge(1, 0, 6 + 8 + 21 + k, 1);
            x.deliver(1, 0);
            due("3 octet " + k + " of NAME", x.told(1, ALERT), 40);
            LossyPair y = Pairs.ready(0, 500);
            y.name(1, 77 ^ 1L << 8 * k, 6);
            y.begin();
            y.deliver(1, 0);
            due("3 octet " + (7 - k) + " of the server's NAME", y.told(1, ALERT), 40);
        }
    }

    /** "BINDER is not right: ALERT 51." */
    private static void binderOctets() {
        for (int k = 0; k < 32; k++) {
            LossyPair x = Pairs.begun(0, 500);
            x.forge(1, 0, 6 + 8 + 29 + k, 128);
            x.deliver(1, 0);
            due("3 octet " + k + " of BINDER", x.told(1, ALERT), 51);
        }
        for (int k = 0; k < 16; k++) {
            LossyPair x = Pairs.ready(0, 500);
            x.key(1, k < 8 ? 1 ^ 1L << 8 * k : 1, k < 8 ? 2 : 2 ^ 1L << 8 * (k - 8));
            x.begin();
            x.deliver(1, 0);
            due("3 another shared KEY", x.told(1, ALERT), 51);
        }
    }

    /** "(Of each of these three ALERTS: it is sent, and the server waits for HELLO as before.)" */
    private static void waitsForHelloAsBefore() {
        int[][] wrong = {{30, 10}, {42, 40}, {74, 51}};
        for (int[] w : wrong) {
            LossyPair x = Pairs.begun(6, 500);
            LossyPair plain = Pairs.begun(6, 500);
            x.forge(1, 0, w[0], 1);
            x.deliver(1, 0);
            CHECK.same("3 ALERT " + w[1] + " by EPOCH 0", Pairs.datagram(x, 0, 0), Octets.openRecord(21, 0, Octets.of(w[1])));
            due("3 as before", x.state(1) + x.told(1, NEXT) + x.told(1, 7) + x.told(1, 12) + x.told(1, LISTED), 0);
            due("3 no SECRETS", x.secret(1, 0, 0) + x.secret(1, 4, 0), -2);
            Pairs.loseAll(x);
            Pairs.ticks(x, 4);
            plain.lose(1, 0);
            Pairs.ticks(plain, 4);
            x.deliver(1, 0);
            plain.deliver(1, 0);
            due("3 the next HELLO is answered", x.state(1), 1);
            CHECK.same("3 CHANCE was not asked before", Octets.part(Pairs.datagram(x, 0, 0), 14, 34),
                    Octets.part(Pairs.datagram(plain, 0, 0), 14, 34));
            x.run(2);
            due("3 OPEN", x.state(0) * 10 + x.state(1), 22);
            due("24 the ALERT is told yet", x.told(1, ALERT), w[1]);
        }
    }

    /** "THE SERVER waits for HELLO, of any NUMBER"; "with HELLO's NUMBER"; "with the NUMBER behind HELLO's" */
    private static void numberOfHello() {
        for (int number = 0; number <= 1; number++) {
            LossyPair x = Pairs.begun(0, 500);
            x.forge(1, 0, 9, number);
            x.deliver(1, 0);
            due("3 ANSWER has HELLO's NUMBER", x.octet(0, 0, 9), number);
            due("3 FINISHED is awaited behind it", x.told(1, NEXT), number + 1);
            LossyPair y = number == 0 ? Pairs.clientOpen() : withCookie();
            if (number == 1) {
                y.deliver(1, 0);
                y.deliver(0, 0);
            }
            due("3 the client took all", y.told(0, NEXT), number + 3);
            y.deliver(1, 0);
            due("3 the server took FINISHED", y.told(1, NEXT), number + 2);
            due("3 OPEN", y.state(1), 2);
        }
    }

    /** "8 SETTINGS: u2 its MTU, its GREETING (0 to 150)" */
    private static void settingsTellTheMtu() {
        for (int mtu : new int[] {100, 127, 128, 255, 256, 257, 499, 500}) {
            LossyPair x = Scenes.greeted(0, mtu, mtu == 100 ? 0 : 1);
            x.begin();
            x.deliver(1, 0);
            byte[] settings = Octets.join(Octets.u2(mtu), new byte[mtu == 100 ? 0 : 1]);
            byte[] want = Octets.sealedRecord(Pairs.secret(x, 1, 1), 2, 0, 22, Octets.fragment(SETTINGS, settings.length, 1, 0, settings));
            CHECK.same("3 MTU " + mtu, Octets.part(Pairs.datagram(x, 0, 0), 34, 34 + want.length), want);
        }
    }

    /** "T(m1, m2, ..) is HASH of MESSAGES, one behind the other.": from the shortest to the longest there are. */
    private static void transcripts() {
        for (int wants : new int[] {0, 1, 6, 7}) {
            for (int many : new int[] {0, 1, 125, 126, 127, 149, 150}) {
                Twin twin = new Twin(new LossyPair(), CHECK, "3 wants " + wants + ", GREETING " + many);
                twin.make(wants, many % 2 == 0 ? 100 : 500);
                twin.key(0, 9, 8);
                twin.key(1, 9, 8);
                twin.draft(new byte[many]);
                twin.greet();
                twin.begin();
                for (int n = 0; n < 4; n++) {
                    twin.run(1);
                    twin.compare();
                    twin.compareSecretsAndWritings();
                }
                due("3 OPEN", twin.state(0) * 10 + twin.state(1), 22);
            }
        }
    }

    /** "RETRY, if HELLO had no COOKIE: its FLIGHT is HELLO, NUMBER 1, with that COOKIE, RANDOM and SHARE as before." */
    private static void retryOnce() {
        LossyPair x = Pairs.begun(2, 100);
        byte[] first = Pairs.datagram(x, 1, 0);
        byte[] cookie = Octets.part(Octets.hash(first), 0, 16);
        hit(x, 0, 9, whole(RETRY, 0, cookie));
        due("3 another datagram", x.net(1), 2);
        byte[] second = Pairs.datagram(x, 1, 1);
        due("3 NUMBER 1", second[9], 1);
        CHECK.same("3 RANDOM as before", Octets.part(second, 14, 30), Octets.part(first, 14, 30));
        CHECK.same("3 that COOKIE", Octets.part(second, 30, 47), Octets.join(Octets.of(16), cookie));
        CHECK.same("3 SHARE and NAME", Octets.part(second, 47, 59), Octets.part(first, 31, 43));
        hit(x, 0, 10, whole(RETRY, 0, cookie));
        due("3 the NUMBER was taken", x.state(0), 1);
        hit(x, 0, 11, whole(RETRY, 1, cookie));
        due("3 HELLO had a COOKIE: ALERT 10", x.told(0, ALERT), 10);
        due("3 DEAD", x.state(0), 4);
        due("3 no third HELLO", x.told(0, 5), 3);
        due("3 the ALERT by EPOCH 0", x.octet(1, 2, 0), 21);
    }

    /** "ANSWER: a SHARE though it wants none: ALERT 47" */
    private static void shareUnwanted() {
        for (long share : new long[] {0, 1, 255, 256, 0x01000000L, 2147483647L, 0x80000000L, 0xffffffffL}) {
            for (int wants : new int[] {0, 2, 4, 6}) {
                LossyPair x = Pairs.begun(wants, 500);
                hit(x, 0, 9, whole(ANSWER, 0, Octets.join(new byte[16], Octets.u4(share))));
                boolean unwanted = share != 0 && (wants & 2) == 0;
                due("3 SHARE " + share, x.told(0, ALERT), unwanted ? 47 : -1);
                due("20 state", x.state(0), unwanted ? 4 : 1);
                due("23 SECRETS of EPOCH 2", x.secret(0, 1, 0) >= 0 ? 1 : 0, unwanted ? 0 : 1);
            }
        }
    }

    /** "if HELLO has a SHARE and it wants one, its number are CHANCE's"; "u4 SHARE (0: none)" */
    private static void serverWithoutShare() {
        for (int wants = 0; wants < 8; wants += 2) {
            LossyPair x = Pairs.begun(wants, 500);
            x.deliver(1, 0);
            boolean both = wants == 6;
            CHECK.yes("3 ANSWER's SHARE, wants " + wants, Octets.u4At(Pairs.datagram(x, 0, 0), 30) != 0 == both);
            byte[] early = Octets.mac(new byte[32], Octets.u8(1), Octets.u8(2));
            byte[] none = Octets.mac(Octets.expand(early, "derived"), Octets.u4(0));
            CHECK.yes("3 BOTH is 0 when it is 0", Arrays.equals(Pairs.secret(x, 1, 4), none) != both);
            x.deliver(0, 0);
            due("3 OPEN", x.state(0), 2);
            CHECK.same("3 the same HAND", Pairs.secret(x, 0, 4), Pairs.secret(x, 1, 4));
        }
    }

    /** The client's: "FINISHED: not right: ALERT 51; else SECRETS of EPOCH 3 .. it is OPEN." */
    private static void finishedToClient() {
        for (int k = -1; k < 32; k++) {
            LossyPair x = waiting(0);
            byte[] settings = Octets.of(1, 244);
            hit(x, 0, 50, whole(SETTINGS, 1, settings));
            byte[] finished = rightFinished(x, settings);
            if (k >= 0) {
                finished[k] ^= 1;
            }
            hit(x, 0, 51, whole(FINISHED, 2, finished));
            due("3 octet " + k + ": ALERT", x.told(0, ALERT), k < 0 ? -1 : 51);
            due("3 octet " + k + ": state", x.state(0), k < 0 ? 2 : 4);
            due("3 octet " + k + ": taken", x.told(0, NEXT), 3);
            due("3 octet " + k + ": SECRETS of EPOCH 3", x.secret(0, 2, 0) >= 0 ? 1 : 0, k < 0 ? 1 : 0);
            due("3 octet " + k + ": sent by EPOCH 2", x.octet(1, 0, 0), 34);
        }
    }

    /** The server's FINISHED for a client of waiting(0), the server's own HELLO and ANSWER being as they were sent. */
    private static byte[] rightFinished(LossyPair x, byte[] settings) {
        LossyPair same = Pairs.begun(0, 500);
        byte[] hello = Octets.part(Pairs.datagram(same, 1, 0), 14, 75);
        same.deliver(1, 0);
        byte[] answer = Octets.part(Pairs.datagram(same, 0, 0), 14, 34);
        byte[] t = Octets.hash(Octets.message(HELLO, hello), Octets.message(ANSWER, answer), Octets.message(SETTINGS, settings));
        return Octets.mac(Octets.expand(Pairs.secret(x, 0, 1), "finished"), t);
    }

    /** The server's: "Then it takes the client's FINISHED .. not right: ALERT 51; else it is OPEN." */
    private static void finishedToServer() {
        for (int k = -1; k < 32; k++) {
            LossyPair x = Pairs.clientOpen();
            byte[] record = Pairs.datagram(x, 1, 0);
            byte[] key = Octets.expand(Pairs.secret(x, 1, 0), "key");
            byte[] fragment = Octets.veil(key, 2, 0, Octets.part(record, 5, 45));
            x.lose(1, 0);
            if (k >= 0) {
                fragment[8 + k] ^= 16;
            }
            hit(x, 1, 0, fragment);
            due("3 octet " + k + ": ALERT", x.told(1, ALERT), k < 0 ? -1 : 51);
            due("3 octet " + k + ": state", x.state(1), k < 0 ? 2 : 4);
            due("3 octet " + k + ": taken", x.told(1, NEXT), 2);
            due("3 octet " + k + ": sent by EPOCH 3", x.octet(0, 0, 0), 35);
        }
    }

    /** "A MESSAGE is taken .. when its NUMBER is next and all its octets came (in any FRAGMENTS" */
    private static void allOctetsCame() {
        LossyPair x = Pairs.clientOpen();
        byte[] record = Pairs.datagram(x, 1, 0);
        byte[] finished = Octets.part(Octets.veil(Octets.expand(Pairs.secret(x, 1, 0), "key"), 2, 0, Octets.part(record, 5, 45)), 8, 40);
        x.lose(1, 0);
        for (int k = 31; k > 0; k--) {
            hit(x, 1, 40 + k, Octets.fragment(FINISHED, 32, 1, k, Octets.part(finished, k, k + 1)));
            due("3 the first one lacks", x.state(1), 1);
        }
        hit(x, 1, 80, Octets.fragment(FINISHED, 32, 1, 1, Octets.part(finished, 1, 32)));
        due("3 those that came, once more", x.told(1, NEXT), 1);
        hit(x, 1, 81, Octets.fragment(FINISHED, 32, 1, 0, Octets.part(finished, 0, 2)));
        due("3 all its octets came", x.state(1), 2);
        for (int lacks = 0; lacks < 20; lacks++) {
            LossyPair y = Pairs.begun(0, 500);
            if (lacks > 0) {
                hit(y, 0, 10, Octets.fragment(ANSWER, 20, 0, 0, new byte[lacks]));
            }
            if (lacks < 19) {
                hit(y, 0, 11, Octets.fragment(ANSWER, 20, 0, lacks + 1, new byte[19 - lacks]));
            }
            due("3 octet " + lacks + " lacks", y.told(0, NEXT), 0);
            hit(y, 0, 12, Octets.fragment(ANSWER, 20, 0, lacks, new byte[1]));
            due("3 octet " + lacks + " came", y.told(0, NEXT), 1);
        }
    }

    /** "It takes MESSAGES by NUMBERS, from 0 on." */
    private static void takenInOrder() {
        LossyPair x = waiting(0);
        byte[] settings = Octets.of(0, 100, 7);
        byte[] finished = rightFinished(x, settings);
        hit(x, 0, 50, whole(FINISHED, 2, finished));
        due("3 2 is not next", x.told(0, NEXT), 1);
        hit(x, 0, 51, whole(SETTINGS, 1, settings));
        due("3 1 is, and then 2", x.told(0, NEXT), 3);
        due("3 OPEN", x.state(0), 2);
        LossyPair y = Pairs.begun(1, 500);
        hit(y, 0, 10, whole(ANSWER, 1, new byte[20]));
        due("3 0 is next at first", y.told(0, NEXT), 0);
        hit(y, 0, 11, whole(RETRY, 0, new byte[16]));
        due("3 RETRY, and then ANSWER at once", y.told(0, NEXT), 2);
        due("3 HELLO with COOKIE was sent", y.told(0, 5), 2);
        due("3 and is OVER", y.told(0, 7) + y.told(0, 12), 0);
    }

    /** "(also where an ALERT is raised by it)" */
    private static void takenAlsoWithAlert() {
        LossyPair x = Pairs.begun(0, 500);
        hit(x, 0, 9, whole(ANSWER, 0, Octets.join(new byte[16], Octets.u4(7))));
        due("3 ALERT 47", x.told(0, ALERT) * 10 + x.told(0, NEXT), 471);
        LossyPair y = waiting(0);
        hit(y, 0, 50, whole(RETRY, 1, new byte[16]));
        due("3 ALERT 10", y.told(0, ALERT) * 10 + y.told(0, NEXT), 102);
        LossyPair z = waiting(1);
        hit(z, 1, 50, whole(FINISHED, 1, new byte[32]));
        due("3 ALERT 51", z.told(1, ALERT) * 10 + z.told(1, NEXT), 512);
        due("4 its record is in LIST", x.told(0, LISTED) * 100 + y.told(0, LISTED) * 10 + z.told(1, LISTED), 121);
    }

    /** "while it is kept, the first one of its NUMBER that came tells kind and length, one with others is MALFORMED" */
    private static void firstTellsKindAndLength() {
        LossyPair x = waiting(0);
        hit(x, 0, 50, Octets.fragment(SETTINGS, 10, 1, 9, new byte[1]));
        byte[][] others = {Octets.fragment(SETTINGS, 9, 1, 0, new byte[9]), Octets.fragment(SETTINGS, 11, 1, 0, new byte[1]),
            whole(FINISHED, 1, new byte[32]), whole(RETRY, 1, new byte[16]), whole(ANSWER, 1, new byte[20])};
        for (int n = 0; n < others.length; n++) {
            due("3 it comes", hit(x, 0, 51 + n, others[n]), 1);
            due("3 MALFORMED", x.told(0, MALFORMED), n + 1);
            due("3 not in LIST", x.told(0, LISTED), 2);
        }
        due("3 none was taken", x.told(0, NEXT) * 10 + x.state(0), 11);
        hit(x, 0, 60, Octets.fragment(SETTINGS, 10, 1, 0, new byte[9]));
        due("3 the first one holds", x.told(0, NEXT), 2);
        hit(x, 0, 61, Octets.fragment(SETTINGS, 9, 1, 0, new byte[9]));
        due("3 it is kept no more", x.told(0, MALFORMED), others.length);
        LossyPair y = waiting(1);
        hit(y, 1, 50, Octets.fragment(FINISHED, 32, 1, 0, new byte[1]));
        hit(y, 1, 51, whole(HELLO, 1, new byte[61]));
        due("3 HELLO in place of FINISHED", y.told(1, MALFORMED) * 10 + y.state(1), 11);
    }

    /** Whether a FRAGMENT of a NUMBER is kept: then one of another length is MALFORMED. Two records from a number on. */
    private static boolean keeps(LossyPair x, int number, int at) {
        int before = x.told(0, MALFORMED);
        hit(x, 0, at, Octets.fragment(SETTINGS, 40, number, 0, new byte[1]));
        hit(x, 0, at + 1, Octets.fragment(SETTINGS, 41, number, 0, new byte[1]));
        return x.told(0, MALFORMED) == before + 1;
    }

    /** "those with a NUMBER up to 4 above the next one are kept; others that were not taken are nothing." */
    private static void fourAbove() {
        for (int number : new int[] {0, 1, 2, 3, 4, 5, 6, 7, 8, 10, 11, 128, 254, 255}) {
            LossyPair x = waiting(0);
            due("3 NUMBER " + number + " beside 1", keeps(x, number, 100) ? 1 : 0, number >= 1 && number <= 5 ? 1 : 0);
            due("3 not taken", x.told(0, NEXT) * 10 + x.state(0), 11);
        }
        LossyPair x = waiting(0);
        for (int number = 5; number >= 1; number--) {
            due("3 five at once", keeps(x, number, 100 + 2 * number) ? 1 : 0, 1);
        }
        due("3 6 is nothing", keeps(x, 6, 200) ? 1 : 0, 0);
        hit(x, 0, 400, Octets.fragment(SETTINGS, 40, 1, 1, new byte[39]));
        due("3 1 is taken", x.told(0, NEXT), 2);
        due("3 6 is 4 above now", keeps(x, 6, 401) ? 1 : 0, 1);
        due("3 7 is not", keeps(x, 7, 403) ? 1 : 0, 0);
        hit(x, 0, 405, Octets.fragment(SETTINGS, 40, 2, 1, new byte[39]));
        due("3 what was kept of 2 is there yet", x.told(0, NEXT) * 100 + x.told(0, ALERT), 310);
    }

    /** "While a side waits for more": not before it begins, nor when it is OPEN. */
    private static void keptWhileItWaits() {
        LossyPair x = Pairs.ready(0, 500);
        hit(x, 0, 9, Octets.fragment(ANSWER, 20, 0, 0, new byte[10]));
        hit(x, 0, 10, whole(RETRY, 0, new byte[16]));
        due("3 both are nothing", x.told(0, MALFORMED) + x.told(0, NEXT) + x.told(0, LISTED), 0);
        x.begin();
        hit(x, 0, 11, Octets.fragment(ANSWER, 20, 0, 10, new byte[10]));
        due("3 the first half was not kept", x.told(0, NEXT), 0);
        LossyPair open = Pairs.open();
        due("3 OPEN: next is 3", open.told(0, NEXT), 3);
        due("3 OPEN: it keeps none", keeps(open, 3, 100) || keeps(open, 4, 102) ? 1 : 0, 0);
        hit(open, 1, 300, Octets.fragment(FINISHED, 32, 2, 0, new byte[32]));
        due("3 OPEN: the server takes none", open.told(1, NEXT) * 10 + open.state(1), 22);
        LossyPair server = Pairs.ready(0, 500);
        byte[] finished = Octets.fragment(FINISHED, 32, 1, 0, new byte[32]);
        Pairs.hit(server, 1, Octets.openRecord(22, 5, finished));
        due("3 a server that waits for HELLO: by EPOCH 0 MALFORMED", server.told(1, MALFORMED), 1);
    }

    /** "ALERT 10: a MESSAGE that is next and whole is not of a kind that is awaited now" */
    private static void notAwaited() {
        int[] kinds = {RETRY, ANSWER, SETTINGS, FINISHED};
        int[] lengths = {16, 20, 2, 32};
        for (int n = 0; n < 4; n++) {
            byte[] body = new byte[lengths[n]];
            LossyPair settings = waiting(0);
            hit(settings, 0, 50, whole(kinds[n], 1, body));
            due("3 SETTINGS awaited, comes " + kinds[n], settings.told(0, ALERT), kinds[n] == SETTINGS ? -1 : 10);
            due("3 DEAD", settings.state(0), kinds[n] == SETTINGS ? 1 : 4);
            LossyPair finished = waiting(0);
            hit(finished, 0, 50, whole(SETTINGS, 1, new byte[2]));
            hit(finished, 0, 51, whole(kinds[n], 2, body));
            due("3 FINISHED awaited, comes " + kinds[n], finished.told(0, ALERT), kinds[n] == FINISHED ? 51 : 10);
            due("3 by EPOCH 2", finished.octet(1, 0, 0), 34);
        }
        // SETTINGS and FINISHED come by EPOCH 2, of which there are no KEYS while ANSWER is awaited.
        LossyPair early = Pairs.begun(0, 500);
        Pairs.hit(early, 0, Octets.of(34, 0, 0, 0, 9, 0, 0, 0, 0, 0, 0, 0, 0, 0));
        due("3 EARLY", early.told(0, 1), 1);
        LossyPair part = waiting(0);
        hit(part, 0, 50, Octets.fragment(RETRY, 16, 1, 0, new byte[15]));
        due("3 not whole", part.told(0, ALERT), -1);
        hit(part, 0, 51, Octets.fragment(RETRY, 16, 1, 15, new byte[1]));
        due("3 whole", part.told(0, ALERT), 10);
        for (int length : new int[] {61, 77}) {
            LossyPair server = waiting(1);
            hit(server, 1, 50, whole(HELLO, 1, new byte[length]));
            due("3 a HELLO that is next", server.told(1, ALERT) * 10 + server.state(1), 104);
            due("3 by EPOCH 3", server.octet(0, 0, 0), 35);
        }
    }

    /** "When one comes that is not 0, it is DEAD, too." */
    private static void notZeroIsDead() {
        for (int code = 0; code < 256; code++) {
            for (int side = 0; side < 2; side++) {
                LossyPair x = Pairs.clientOpen();
                Pairs.hit(x, side, Pairs.sealed(x, side, 3, 40, 21, Octets.of(code)));
                due("3 ALERT " + code + ": state", x.state(side), code == 0 ? 2 - side : 4);
                due("3 ALERT " + code + ": told", x.told(side, ALERT), code == 0 ? -1 : code);
                due("3 ALERT " + code + ": CLOSE", x.told(side, 9), code == 0 ? 1 : 0);
                due("3 ALERT " + code + ": TIMER", x.told(side, 7), code == 0 ? 4 : 0);
            }
        }
    }

    /** "DEAD: no TIMER; nothing is sent, what comes is nothing (not even counted)." */
    private static void deadDoesNothing() {
        for (int scene : new int[] {2, 3, 4, 5, 6, 8, 9}) {
            for (int side = 0; side < 2; side++) {
                LossyPair x = Scenes.make(scene);
                int epoch = x.secret(side, 2, 0) >= 0 ? 3 : x.secret(side, 0, 0) >= 0 ? 2 : 0;
                byte[] alert = Octets.of(33);
                Pairs.hit(x, side, epoch == 0 ? Octets.openRecord(21, 60, alert) : Pairs.sealed(x, side, epoch, 60, 21, alert));
                String what = "3 DEAD from " + Scenes.NAMES[scene] + ", side " + side;
                due(what, x.state(side), 4);
                due(what + ": no TIMER, none to be ACKED", x.told(side, 7) + x.told(side, 12), 0);
                int[] before = new int[13];
                for (int n = 0; n < 13; n++) {
                    before[n] = x.told(side, n);
                }
                Pairs.hit(x, side, Octets.of(1), Octets.openRecord(26, 61, new byte[0]));
                Pairs.hit(x, side, Octets.openRecord(26, 61, new byte[0]), Octets.openRecord(21, 62, alert));
                Pairs.hit(x, side, Octets.openRecord(22, 63, whole(side == 1 ? HELLO : RETRY, 0, new byte[side == 1 ? 61 : 16])));
                Pairs.hit(x, side, Octets.of(35, 0, 0, 0, 0));
                Pairs.ticks(x, 70);
                for (int n = 0; n < 13; n++) {
                    due(what + ": told " + n, x.told(side, n), before[n]);
                }
                due(what + ": for ever", x.state(side), 4);
            }
        }
    }
}
