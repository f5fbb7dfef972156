import java.util.ArrayList;
import java.util.List;

/**
 * Part 4 of the document's terms, FLIGHTS: the sentences that name an edge, each with the calls that bring it about;
 * the sentence stands above its test.
 */
public final class FlightEdgesTest {
    private static final int MALFORMED = 0;
    private static final int EARLY = 1;
    private static final int SENT = 5;
    private static final int AGAIN = 6;
    private static final int TIMER = 7;
    private static final int LISTED = 10;
    private static final int NOT_ACKED = 12;
    private static final int HELLO = 1;
    private static final int ANSWER = 2;
    private static final int RETRY = 6;
    private static final int SETTINGS = 8;
    private static final int FINISHED = 20;
    /** A FRAGMENT's 8 octets, and what a record has ahead of them and behind. */
    private static final int OPEN_AROUND = 6 + 8;
    private static final int SEALED_AROUND = 5 + 8 + 9;
    private static final Check CHECK = new Check("FlightEdgesTest");

    private FlightEdgesTest() {
    }

    public static void main(String[] args) {
        asManyAsFit();
        helloFits();
        notAckedAlone();
        timers();
        ninthByFragment();
        ninthOfBothWays();
        eightOfEachFlight();
        overWhenAllAcked();
        overByRetryOrAnswer();
        overWhenServerIsOpen();
        overWhenDataCame();
        ofAnySending();
        ofThisFlightAlone();
        numberOfTwoOctets();
        latestEight();
        listOfHandshakeAlone();
        listSinceItsFlight();
        noList();
        atTheSecondTick();
        nothingWithoutList();
        acksAheadOfTheTimer();
        serverAcksWhenOpen();
        nowIsAbove();
        whoSendsAgain();
        dataInEachState();
        closedAsOpen();
        CHECK.end();
    }

    private static void due(String what, long got, long want) {
        CHECK.due(what, got, want);
    }

    private static byte[] entry(int epoch, int number) {
        return Octets.join(Octets.of(epoch), Octets.u2(number));
    }

    private static byte[] whole(int kind, int number, int length) {
        return Octets.fragment(kind, length, number, 0, new byte[length]);
    }

    /** Lets a FRAGMENT come by the EPOCH of its kind. */
    private static int hit(LossyPair x, int side, int number, byte[] fragment) {
        boolean sealed = fragment[0] == SETTINGS || fragment[0] == FINISHED;
        return Pairs.hit(x, side, sealed
                ? Pairs.sealed(x, side, 2, number, 22, fragment)
                : Octets.openRecord(22, number, fragment));
    }

    private static void tickAndLose(LossyPair x, int many) {
        for (int n = 0; n < many; n++) {
            x.tick();
            Pairs.loseAll(x);
        }
    }

    /** Datagrams of runs of octets that stand side by side, each run with what its records have around it. */
    private static List<Integer> sizes(int mtu, List<int[]> runs) {
        List<Integer> sizes = new ArrayList<>();
        int begun = 0;
        for (int[] run : runs) {
            int left = run[1];
            while (left > 0) {
                int fit = Math.min(left, mtu - begun - run[0]);
                if (fit >= 1) {
                    begun += run[0] + fit;
                    left -= fit;
                } else {
                    sizes.add(begun);
                    begun = 0;
                }
            }
        }
        sizes.add(begun);
        return sizes;
    }

    private static void datagrams(String what, LossyPair x, int side, List<Integer> want) {
        due(what + ": datagrams", x.net(side), want.size());
        for (int i = 0; i < Math.min(want.size(), x.net(side)); i++) {
            due(what + ": size " + i, x.size(side, i), want.get(i));
        }
    }

    /**
     * "into the datagram that is begun goes the next record if its FRAGMENT can have 1 octet at least, as many octets as
     * fit; else that datagram is sent, and another one begins."; 2: "at most MTU octets"
     */
    private static void asManyAsFit() {
        for (int greeting = 0; greeting <= 150; greeting++) {
            for (int mtu = 100; mtu <= 500; mtu += mtu < 264 ? 1 : 59) {
                LossyPair x = Scenes.greeted(0, mtu, greeting);
                x.begin();
                x.deliver(1, 0);
                List<int[]> runs = List.of(new int[] {OPEN_AROUND, 20}, new int[] {SEALED_AROUND, 2 + greeting},
                        new int[] {SEALED_AROUND, 32});
                datagrams("4 MTU " + mtu + ", GREETING " + greeting, x, 0, sizes(mtu, runs));
                if (greeting % 10 == 0) {
                    x.run(2);
                    due("4 it all comes", x.state(0) * 10 + x.state(1), 22);
                }
            }
        }
    }

    /** HELLO is whole at the least MTU, with its COOKIE, too. */
    private static void helloFits() {
        LossyPair x = Pairs.begun(7, 100);
        due("4 without COOKIE", x.size(1, 0), 75);
        x.deliver(1, 0);
        x.deliver(0, 0);
        due("4 with COOKIE", x.size(1, 0), 91);
        due("4 one datagram each", x.told(0, SENT), 2);
    }

    /** "FRAGMENTS are of octets side by side that were not ACKED.": each set of the six records of a FLIGHT. */
    private static void notAckedAlone() {
        int[][] records = {{0, 0, 20}, {2, 0, 44}, {2, 1, 78}, {2, 2, 30}, {2, 3, 26}, {2, 4, 6}};
        int[] messages = {0, 1, 1, 1, 2, 2};
        for (int set = 0; set < 64; set++) {
            LossyPair x = Scenes.answered();
            byte[] entries = new byte[0];
            List<int[]> runs = new ArrayList<>();
            int left = 0;
            for (int n = 0; n < 6; n++) {
                if ((set >> n & 1) != 0) {
                    entries = Octets.join(entries, entry(records[n][0], records[n][1]));
                    continue;
                }
                left += records[n][2];
                boolean side = n > 0 && (set >> n - 1 & 1) == 0 && messages[n] == messages[n - 1];
                if (side) {
                    runs.get(runs.size() - 1)[1] += records[n][2];
                } else {
                    runs.add(new int[] {n == 0 ? OPEN_AROUND : SEALED_AROUND, records[n][2]});
                }
            }
            Pairs.hit(x, 1, Pairs.sealed(x, 1, 2, 9, 26, entries));
            due("4 not ACKED of set " + set, x.told(1, NOT_ACKED), left);
            due("4 TIMER of set " + set, x.told(1, TIMER), set == 63 ? 0 : 4);
            Pairs.loseAll(x);
            Pairs.ticks(x, 4);
            datagrams("4 set " + set, x, 0, set == 63 ? List.of() : sizes(100, runs));
        }
    }

    /** A pair with a FLIGHT that was just sent, and is never heard of: HELLO, the server's, the client's FINISHED. */
    private static LossyPair unheard(int flight) {
        LossyPair x = flight == 0 ? Pairs.begun(0, 500) : flight == 1 ? Scenes.answered() : Pairs.clientOpen();
        Pairs.loseAll(x);
        return x;
    }

    /**
     * "Its TIMER is 4 TICKS at first."; "its TIMER is twice as long then, 32 at most."; "What would be the ninth SENDING
     * AGAIN of a FLIGHT: DEAD instead"
     */
    private static void timers() {
        int[] waits = {4, 8, 16, 32, 32, 32, 32, 32, 32};
        for (int flight = 0; flight < 3; flight++) {
            int side = flight == 1 ? 1 : 0;
            LossyPair x = unheard(flight);
            for (int n = 0; n < waits.length; n++) {
                String what = "4 FLIGHT " + flight + ", sending " + n;
                due(what + ": TIMER", x.told(side, TIMER), waits[n]);
                int sent = x.told(side, SENT);
                tickAndLose(x, waits[n] - 1);
                due(what + ": not yet", x.told(side, SENT), sent);
                due(what + ": AGAIN", x.told(side, AGAIN), n);
                due(what + ": not DEAD", x.state(side) != 4 ? 1 : 0, 1);
                tickAndLose(x, 1);
                due(what + ": then", x.told(side, SENT) - sent, n == 8 ? 0 : flight == 1 ? 4 : 1);
            }
            due("4 the ninth: DEAD", x.state(side), 4);
            due("4 eight SENDINGS AGAIN", x.told(side, AGAIN), 8);
            due("4 no TIMER, no ALERT", x.told(side, TIMER) + x.told(side, 8), -1);
        }
    }

    /** A FRAGMENT that was taken, and makes a side send again: of the client OPEN, of the server that waits. */
    private static byte[] repeated(int side) {
        return side == 0 ? whole(FINISHED, 2, 32) : whole(HELLO, 0, 61);
    }

    /** "(by a FRAGMENT, see below: nothing)" */
    private static void ninthByFragment() {
        for (int side = 0; side < 2; side++) {
            LossyPair x = unheard(2 - side);
            for (int n = 1; n <= 8; n++) {
                x.tick();
                Pairs.loseAll(x);
                hit(x, side, 40 + n, repeated(side));
                due("4 AGAIN", x.told(side, AGAIN), n);
                due("4 its TIMER stays as long", x.told(side, TIMER), 4);
            }
            Pairs.loseAll(x);
            x.tick();
            Pairs.loseAll(x);
            int state = x.state(side);
            int sent = x.told(side, SENT);
            due("4 the ninth comes", hit(x, side, 50, repeated(side)), 1);
            due("4 the ninth: nothing", x.told(side, AGAIN), 8);
            due("4 the ninth: nothing", x.told(side, SENT), sent);
            due("4 the ninth: not DEAD", x.state(side), state);
            tickAndLose(x, 2);
            due("4 4 behind the eighth: not yet", x.state(side), state);
            tickAndLose(x, 1);
            due("4 then the TIMER: DEAD", x.state(side), 4);
        }
    }

    /** "What would be the ninth SENDING AGAIN of a FLIGHT": those by TIMERS and by FRAGMENTS count as one. */
    private static void ninthOfBothWays() {
        LossyPair x = unheard(2);
        tickAndLose(x, 4 + 8 + 16 + 32 + 32 + 32 + 32);
        due("4 seven by the TIMER", x.told(0, AGAIN), 7);
        tickAndLose(x, 5);
        hit(x, 0, 60, repeated(0));
        due("4 the eighth by a FRAGMENT", x.told(0, AGAIN), 8);
        due("4 TIMER", x.told(0, TIMER), 32);
        tickAndLose(x, 31);
        due("4 31 behind that", x.state(0), 2);
        tickAndLose(x, 1);
        due("4 32 behind that", x.state(0), 4);
    }

    /** "of a FLIGHT": a new one has eight SENDINGS AGAIN of its own. */
    private static void eightOfEachFlight() {
        LossyPair x = Pairs.begun(0, 500);
        tickAndLose(x, 188);
        due("4 eight of the first HELLO", x.told(0, AGAIN), 8);
        hit(x, 0, 9, whole(RETRY, 0, 16));
        Pairs.loseAll(x);
        tickAndLose(x, 188);
        due("4 eight of the second", x.told(0, AGAIN), 16);
        tickAndLose(x, 31);
        due("4 not DEAD yet", x.state(0), 1);
        tickAndLose(x, 1);
        due("4 then DEAD", x.state(0), 4);
        LossyPair y = Pairs.begun(0, 500);
        tickAndLose(y, 187);
        y.tick();
        y.deliver(1, 0);
        y.deliver(0, 0);
        Pairs.loseAll(y);
        tickAndLose(y, 188);
        due("4 eight of HELLO, eight of FINISHED", y.told(0, AGAIN) * 10 + y.state(0), 162);
    }

    /** "It is OVER (no TIMER, nothing is SENT AGAIN): when all its octets were ACKED" */
    private static void overWhenAllAcked() {
        LossyPair x = Scenes.answered();
        byte[] allButOne = Octets.join(entry(0, 0), entry(2, 0), entry(2, 1), entry(2, 2), entry(2, 3));
        Pairs.hit(x, 1, Pairs.sealed(x, 1, 2, 9, 26, allButOne));
        due("4 6 octets lack", x.told(1, NOT_ACKED) * 10 + x.told(1, TIMER), 64);
        Pairs.loseAll(x);
        Pairs.ticks(x, 4);
        due("4 SENT AGAIN", x.net(0) * 100 + x.size(0, 0), 128);
        Pairs.hit(x, 1, Pairs.sealed(x, 1, 2, 10, 26, entry(2, 5)));
        due("4 OVER", x.told(1, NOT_ACKED) * 10 + x.told(1, TIMER), 0);
        due("4 it waits yet", x.state(1), 1);
        Pairs.loseAll(x);
        int again = x.told(1, AGAIN);
        tickAndLose(x, 1);
        hit(x, 1, 40, repeated(1));
        due("4 nothing is SENT AGAIN by a FRAGMENT", x.net(0), 0);
        tickAndLose(x, 300);
        due("4 nor by a TIMER", x.told(1, AGAIN), again);
        due("4 nor is it DEAD", x.state(1), 1);
    }

    /** "HELLO: when RETRY or ANSWER is taken" */
    private static void overByRetryOrAnswer() {
        LossyPair x = Pairs.begun(0, 500);
        hit(x, 0, 9, Octets.fragment(ANSWER, 20, 0, 0, new byte[19]));
        due("4 not whole", x.told(0, NOT_ACKED) * 10 + x.told(0, TIMER), 614);
        hit(x, 0, 10, Octets.fragment(ANSWER, 20, 0, 19, new byte[1]));
        due("4 ANSWER is taken", x.told(0, NOT_ACKED) * 10 + x.told(0, TIMER), 0);
        LossyPair y = Pairs.begun(0, 500);
        hit(y, 0, 9, whole(ANSWER, 1, 20));
        due("4 not next", y.told(0, NOT_ACKED) * 10 + y.told(0, TIMER), 614);
        tickAndLose(y, 4);
        due("4 TIMER of the first HELLO", y.told(0, TIMER), 8);
        hit(y, 0, 10, whole(RETRY, 0, 16));
        due("4 RETRY is taken, and ANSWER", y.told(0, TIMER), 0);
        LossyPair z = Pairs.begun(0, 500);
        tickAndLose(z, 4);
        hit(z, 0, 10, whole(RETRY, 0, 16));
        due("4 another FLIGHT, with a TIMER of its own", z.told(0, NOT_ACKED) * 10 + z.told(0, TIMER), 774);
        Pairs.loseAll(z);
        Pairs.ticks(z, 3);
        due("4 the first HELLO is not SENT AGAIN", z.net(1), 0);
        z.tick();
        due("4 the second one is", z.size(1, 0), 91);
    }

    /** "the server's: when it is OPEN" */
    private static void overWhenServerIsOpen() {
        LossyPair x = Pairs.clientOpen();
        due("4 before", x.told(1, NOT_ACKED) * 10 + x.told(1, TIMER), 544);
        x.deliver(1, 0);
        due("4 OPEN", x.told(1, NOT_ACKED) * 10 + x.told(1, TIMER), 0);
        Pairs.loseAll(x);
        Pairs.ticks(x, 64);
        due("4 nothing is SENT AGAIN", x.told(1, AGAIN), 0);
    }

    /** "the client's FINISHED: when DATA came." */
    private static void overWhenDataCame() {
        for (int many : new int[] {0, 1, 60, 61}) {
            LossyPair x = Pairs.clientOpen();
            Pairs.hit(x, 0, Pairs.sealed(x, 0, 3, 9, 23, new byte[many]));
            boolean over = many == 1 || many == 60;
            due("4 DATA of " + many, x.told(0, NOT_ACKED) * 10 + x.told(0, TIMER), over ? 0 : 324);
            Pairs.loseAll(x);
            Pairs.ticks(x, 4);
            due("4 SENT AGAIN", x.told(0, AGAIN), over ? 0 : 1);
        }
        LossyPair x = Pairs.clientOpen();
        Pairs.hit(x, 0, Pairs.sealed(x, 0, 3, 9, 26), Pairs.sealed(x, 0, 3, 10, 21, Octets.of(0)));
        due("4 ACK of none, and CLOSE", x.told(0, TIMER), 4);
        byte[] data = Pairs.sealed(x, 0, 3, 11, 23, new byte[3]);
        data[7] ^= 1;
        Pairs.hit(x, 0, data);
        due("4 FORGED DATA", x.told(0, TIMER), 4);
    }

    /** "octets of the FLIGHT that are in records which it tells (of any sending of this FLIGHT) are ACKED" */
    private static void ofAnySending() {
        for (int n = 0; n <= 8; n++) {
            LossyPair x = Pairs.begun(0, 500);
            tickAndLose(x, 188);
            due("4 nine records", x.told(0, AGAIN), 8);
            Pairs.hit(x, 0, Octets.openRecord(26, 9, entry(0, n)));
            due("4 by that of sending " + n, x.told(0, NOT_ACKED) + x.told(0, TIMER), 0);
        }
        LossyPair x = Pairs.begun(0, 500);
        tickAndLose(x, 188);
        Pairs.hit(x, 0, Octets.openRecord(26, 9, Octets.join(entry(0, 9), entry(0, 65535), entry(0, 256))));
        due("4 records that were not sent", x.told(0, NOT_ACKED), 61);
        Pairs.hit(x, 0, Octets.openRecord(26, 10, new byte[0]));
        due("4 none", x.told(0, NOT_ACKED), 61);
        byte[] many = new byte[492];
        for (int i = 0; i < 489; i++) {
            many[i] = (byte) 255;
        }
        Pairs.hit(x, 0, Octets.openRecord(26, 11, many));
        due("4 the last of 164 entries", x.told(0, NOT_ACKED), 0);
    }

    /** "A FLIGHT (a new one in place of that before)": records of that before, or of none, tell nothing. */
    private static void ofThisFlightAlone() {
        LossyPair x = Pairs.begun(0, 500);
        hit(x, 0, 9, whole(RETRY, 0, 16));
        Pairs.hit(x, 0, Octets.openRecord(26, 10, entry(0, 0)));
        due("4 the first HELLO", x.told(0, NOT_ACKED), 77);
        Pairs.hit(x, 0, Octets.openRecord(26, 11, entry(0, 1)));
        due("4 the second", x.told(0, NOT_ACKED), 0);
        LossyPair y = Pairs.clientOpen();
        Pairs.write(y, 0, "a");
        Pairs.hit(y, 0, Pairs.sealed(y, 0, 3, 9, 26, Octets.join(entry(0, 0), entry(3, 0))));
        due("4 HELLO, and DATA", y.told(0, NOT_ACKED), 32);
        LossyPair z = Pairs.begun(1, 500);
        z.deliver(1, 0);
        z.run(1);
        z.deliver(1, 0);
        Pairs.hit(z, 1, Octets.openRecord(26, 40, entry(0, 0)));
        due("4 RETRY is in no FLIGHT", z.told(1, NOT_ACKED), 54);
        Pairs.hit(z, 1, Octets.openRecord(26, 41, entry(0, 1)));
        due("4 ANSWER is", z.told(1, NOT_ACKED), 34);
    }

    /** 2: "ACK: u1 EPOCH and u2 number of each record that it tells.": ANSWER as the record 256 of the server. */
    private static void numberOfTwoOctets() {
        for (int before : new int[] {253, 254, 255, 256}) {
            LossyPair x = Pairs.begun(1, 500);
            for (int n = 0; n < before; n++) {
                hit(x, 1, 1000 + n, whole(HELLO, 0, 61));
                x.lose(0, 0);
            }
            x.forge(1, 0, 2, 8);
            x.deliver(1, 0);
            x.deliver(0, 0);
            x.forge(1, 0, 2, 8);
            x.deliver(1, 0);
            due("4 the number of ANSWER", Octets.u2At(Pairs.datagram(x, 0, 0), 2), before + 1);
            int high = before + 1 >> 8;
            int low = before + 1 & 255;
            Pairs.hit(x, 1, Octets.openRecord(26, 3000, Octets.of(0, 0, low, 0, high + 1, low, 0, high, low + 1)));
            due("4 other records", x.told(1, NOT_ACKED), high == 0 ? 34 : 54);
            Pairs.hit(x, 1, Octets.openRecord(26, 3001, Octets.of(0, high, low)));
            due("4 that record", x.told(1, NOT_ACKED), 34);
        }
    }

    /** "A side's LIST: EPOCH and number of the latest 8 HANDSHAKE records"; "in the order in which they came" */
    private static void latestEight() {
        for (int many = 1; many <= 18; many++) {
            LossyPair x = unheard(1);
            byte[] want = new byte[0];
            for (int n = 0; n < many; n++) {
                // Numbers that go down: the order is that in which they came.
                int number = 65535 - n;
                hit(x, 1, number, n % 2 == 0 ? whole(HELLO, 0, 61) : Octets.fragment(FINISHED, 32, 1, 0, new byte[1]));
                want = n < many - 8 ? want : Octets.join(want, entry(n % 2 == 0 ? 0 : 2, number));
            }
            due("4 LIST of " + many, x.told(1, LISTED), Math.min(8, many));
            Pairs.ticks(x, 2);
            CHECK.same("4 LIST of " + many, Pairs.datagram(x, 0, 0),
                    Octets.sealedRecord(Pairs.secret(x, 1, 3), 3, 0, 26, want));
        }
    }

    /** "HANDSHAKE records that CAME (not MALFORMED)" */
    private static void listOfHandshakeAlone() {
        LossyPair x = Pairs.open();
        int listed = x.told(1, LISTED);
        Pairs.hit(x, 1, Pairs.sealed(x, 1, 3, 40, 23, Octets.of(1)), Pairs.sealed(x, 1, 3, 41, 26),
                Pairs.sealed(x, 1, 3, 42, 21, Octets.of(0)), Octets.openRecord(26, 40, new byte[0]));
        due("4 DATA, ACK, ALERT", x.told(1, LISTED), listed);
        hit(x, 1, 43, Octets.fragment(FINISHED, 32, 1, 0, new byte[0]));
        hit(x, 1, 44, whole(HELLO, 2, 61));
        due("4 MALFORMED ones", x.told(1, MALFORMED) * 10 + x.told(1, LISTED), 20 + listed);
        byte[] forged = Pairs.sealed(x, 1, 2, 45, 22, whole(FINISHED, 1, 32));
        forged[9] ^= 1;
        Pairs.hit(x, 1, forged);
        due("4 FORGED", x.told(1, LISTED), listed);
        byte[] right = Pairs.sealed(x, 1, 2, 45, 22, whole(FINISHED, 1, 32));
        Pairs.hit(x, 1, right, right);
        due("4 one that CAME, once", x.told(1, LISTED), listed + 1);
        hit(x, 1, 46, whole(FINISHED, 200, 32));
        due("4 one of a NUMBER far above", x.told(1, LISTED), listed + 2);
    }

    /** "since its FLIGHT was sent first" */
    private static void listSinceItsFlight() {
        LossyPair x = Pairs.begun(0, 500);
        hit(x, 0, 9, Octets.fragment(RETRY, 16, 0, 0, new byte[15]));
        due("4 a part of RETRY", x.told(0, LISTED), 1);
        tickAndLose(x, 4);
        due("4 SENT AGAIN: LIST stays", x.told(0, AGAIN) * 10 + x.told(0, LISTED), 11);
        hit(x, 0, 10, Octets.fragment(RETRY, 16, 0, 15, new byte[1]));
        due("4 another FLIGHT", x.told(0, LISTED), 0);
        LossyPair y = Scenes.answerTaken();
        due("4 ANSWER and a part of SETTINGS: no FLIGHT by them", y.told(0, LISTED), 2);
        y.run(1);
        due("4 OPEN, another FLIGHT", y.state(0) * 10 + y.told(0, LISTED), 20);
        LossyPair z = Pairs.clientOpen();
        hit(z, 1, 9, whole(HELLO, 0, 61));
        z.deliver(1, 0);
        due("4 the server OPEN: no other FLIGHT", z.state(1) * 10 + z.told(1, LISTED), 22);
    }

    /** "(none while the client has not begun, or the server waits for HELLO)" */
    private static void noList() {
        LossyPair x = Pairs.ready(1, 500);
        hit(x, 0, 9, whole(RETRY, 0, 16));
        due("4 it comes", x.told(0, 4), 1);
        due("4 the client has not begun", x.told(0, LISTED), 0);
        x.begin();
        due("4 nor is it there when it begins", x.told(0, LISTED), 0);
        x.deliver(1, 0);
        due("4 the server waits for HELLO yet", x.told(1, LISTED), 0);
        x.deliver(0, 0);
        x.deliver(1, 0);
        due("4 HELLO that is answered is not in LIST", x.state(1) * 10 + x.told(1, LISTED), 10);
        hit(x, 1, 9, whole(HELLO, 0, 61));
        due("4 the next one is", x.told(1, LISTED), 1);
    }

    /** "at the TICK that is 2 behind the latest record of its LIST" */
    private static void atTheSecondTick() {
        for (int side = 0; side < 2; side++) {
            LossyPair x = side == 0 ? Pairs.begun(0, 500) : unheard(1);
            // Behind the TICK 4 of the TIMER, and up to 11, one before the next.
            tickAndLose(x, 5);
            byte[] part = side == 0 ? Octets.fragment(ANSWER, 20, 0, 0, new byte[1]) : whole(FINISHED, 2, 32);
            int other = 1 - side;
            hit(x, side, 40, part);
            tickAndLose(x, 1);
            int sent = x.told(side, SENT);
            hit(x, side, 41, part);
            tickAndLose(x, 1);
            due("4 1 behind the latest", x.told(side, SENT), sent);
            x.tick();
            due("4 2 behind the latest", x.told(side, SENT), sent + 1);
            byte[] entries = side == 0 ? Octets.join(entry(0, 40), entry(0, 41)) : Octets.join(entry(2, 40), entry(2, 41));
            CHECK.same("4 LIST", Pairs.datagram(x, other, 0), side == 0
                    ? Octets.openRecord(26, 2, entries)
                    : Octets.sealedRecord(Pairs.secret(x, 1, 3), 3, 0, 26, entries));
            Pairs.loseAll(x);
            due("4 LIST stays", x.told(side, LISTED), 2);
            tickAndLose(x, 1);
            due("4 not at the next ones", x.told(side, SENT), sent + 1);
            hit(x, side, 42, part);
            x.tick();
            due("4 1 behind another", x.told(side, SENT), sent + 1);
            x.tick();
            due("4 2 behind another", x.told(side, SENT), sent + 2);
        }
    }

    /** "(nothing without LIST)"; "a side that waits for more" alone does so by TICKS. */
    private static void nothingWithoutList() {
        LossyPair x = Scenes.answered();
        Pairs.loseAll(x);
        Pairs.ticks(x, 3);
        due("4 no LIST", x.net(0) + x.net(1), 0);
        LossyPair y = Pairs.clientOpen();
        Pairs.loseAll(y);
        hit(y, 0, 9, whole(ANSWER, 0, 20));
        due("4 the client OPEN has a LIST", y.told(0, LISTED), 1);
        Pairs.ticks(y, 3);
        due("4 but waits for nothing", y.net(1), 0);
        LossyPair z = Pairs.open();
        due("4 the server OPEN has a LIST", z.told(1, LISTED), 1);
        Pairs.ticks(z, 5);
        due("4 but waits for nothing", z.net(0), 0);
    }

    /** Promise 10: "it ACKS, if it is time; its TIMER, if it is time.", both at one TICK, at the ninth time, too. */
    private static void acksAheadOfTheTimer() {
        int[] before = {2, 4 + 8 + 16 + 32 + 32 + 32 + 32 + 32 + 30};
        for (int side = 0; side < 2; side++) {
            for (int wait : before) {
                LossyPair x = unheard(side);
                tickAndLose(x, wait);
                int sent = x.told(side, SENT);
                hit(x, side, 40, side == 0 ? Octets.fragment(ANSWER, 20, 0, 0, new byte[1]) : whole(FINISHED, 2, 32));
                tickAndLose(x, 1);
                due("4 not yet", x.told(side, SENT), sent);
                x.tick();
                boolean ninth = wait > 2;
                due("4 first the ACK, alone or not", x.size(1 - side, 0), side == 0 ? 6 + 3 : 5 + 3 + 9);
                due("4 then the FLIGHT, or DEAD", x.net(1 - side), ninth ? 1 : side == 0 ? 2 : 5);
                due("4 then the FLIGHT, or DEAD", x.state(side), ninth ? 4 : 1);
            }
        }
    }

    /** "the server, when it gets OPEN, and from then on when a FRAGMENT of a NUMBER comes that was taken" */
    private static void serverAcksWhenOpen() {
        LossyPair x = Pairs.clientOpen();
        int sent = x.told(1, SENT);
        hit(x, 1, 9, whole(HELLO, 0, 61));
        due("4 not before", x.told(1, SENT), sent);
        x.deliver(1, 0);
        due("4 when it gets OPEN, once", x.told(1, SENT), sent + 1);
        CHECK.same("4 LIST", Pairs.datagram(x, 0, 0),
                Octets.sealedRecord(Pairs.secret(x, 1, 3), 3, 0, 26, Octets.join(entry(0, 9), entry(2, 0))));
        hit(x, 1, 10, Octets.fragment(FINISHED, 32, 1, 31, new byte[1]));
        due("4 NUMBER 1", x.told(1, SENT), sent + 2);
        hit(x, 1, 11, whole(FINISHED, 0, 32));
        due("4 NUMBER 0", x.told(1, SENT), sent + 3);
        hit(x, 1, 12, whole(FINISHED, 2, 32));
        due("4 NUMBER 2 was not taken", x.told(1, SENT), sent + 3);
        hit(x, 1, 13, Octets.fragment(FINISHED, 32, 1, 32, new byte[1]));
        due("4 MALFORMED", x.told(1, SENT), sent + 3);
        byte[] two = Octets.fragment(FINISHED, 32, 1, 0, new byte[2]);
        Pairs.hit(x, 1, Pairs.sealed(x, 1, 2, 14, 22, two), Pairs.sealed(x, 1, 2, 15, 22, two));
        due("4 two FRAGMENTS in one datagram", x.told(1, SENT), sent + 5);
        due("4 the FLIGHT is not SENT AGAIN", x.told(1, AGAIN), 0);
    }

    /** "the FLIGHT is SENT AGAIN, if NOW is above the TICK at which it was sent latest; its TIMER stays as long." */
    private static void nowIsAbove() {
        for (int side = 0; side < 2; side++) {
            LossyPair x = unheard(2 - side);
            hit(x, side, 40, repeated(side));
            due("4 at the same TICK", x.told(side, AGAIN), 0);
            tickAndLose(x, 1);
            hit(x, side, 41, repeated(side));
            due("4 one above", x.told(side, AGAIN), 1);
            due("4 as long", x.told(side, TIMER), 4);
            hit(x, side, 42, repeated(side));
            due("4 at the same TICK again", x.told(side, AGAIN), 1);
            Pairs.loseAll(x);
            tickAndLose(x, 3);
            due("4 its TIMER is from then on", x.told(side, AGAIN), 1);
            tickAndLose(x, 1);
            due("4 its TIMER", x.told(side, AGAIN), 2);
            hit(x, side, 43, repeated(side));
            due("4 at the TICK of the TIMER", x.told(side, AGAIN), 2);
            due("4 twice as long", x.told(side, TIMER), 8);
            tickAndLose(x, 1);
            hit(x, side, 44, repeated(side));
            due("4 stays twice as long", x.told(side, AGAIN) * 10 + x.told(side, TIMER), 38);
        }
    }

    private static void again(String what, LossyPair x, int side, byte[] fragment, boolean sent) {
        tickAndLose(x, 1);
        int before = x.told(side, AGAIN);
        due(what + ": it comes", hit(x, side, 60, fragment), 1);
        due(what, x.told(side, AGAIN) - before, sent ? 1 : 0);
    }

    /** "A FRAGMENT of a NUMBER that was taken already .. (the client OPEN; the server not OPEN, a HELLO)" */
    private static void whoSendsAgain() {
        again("4 client OPEN, ANSWER", unheard(2), 0, whole(ANSWER, 0, 20), true);
        again("4 client OPEN, SETTINGS", unheard(2), 0, whole(SETTINGS, 1, 2), true);
        again("4 client OPEN, one octet", unheard(2), 0, Octets.fragment(FINISHED, 32, 2, 31, new byte[1]), true);
        again("4 client OPEN, a NUMBER not taken", unheard(2), 0, whole(FINISHED, 3, 32), false);
        again("4 client OPEN, MALFORMED", unheard(2), 0, whole(FINISHED, 2, 31), false);
        again("4 client that waits, ANSWER", Scenes.answerTaken(), 0, whole(ANSWER, 0, 20), false);
        LossyPair retried = Pairs.begun(0, 500);
        hit(retried, 0, 9, whole(RETRY, 0, 16));
        again("4 client that waits, RETRY, HELLO not OVER", retried, 0, whole(RETRY, 0, 16), false);
        due("4 not OVER", retried.told(0, TIMER), 4);
        again("4 server not OPEN, HELLO", unheard(1), 1, whole(HELLO, 0, 77), true);
        again("4 server not OPEN, FINISHED", unheard(1), 1, whole(FINISHED, 0, 32), false);
        again("4 server not OPEN, a NUMBER not taken", unheard(1), 1, whole(FINISHED, 2, 32), false);
        again("4 server OPEN", Pairs.open(), 1, whole(HELLO, 0, 61), false);
        again("4 client OPEN, its FLIGHT OVER", Pairs.open(), 0, whole(FINISHED, 2, 32), false);
        LossyPair closed = Pairs.clientOpen();
        closed.close(0);
        again("4 client CLOSED, as OPEN", closed, 0, whole(FINISHED, 2, 32), true);
    }

    /** "When it comes to one that is not OPEN (nor CLOSED), it is EARLY (and did not come); else it is delivered." */
    private static void dataInEachState() {
        LossyPair x = Pairs.clientOpen();
        byte[] data = Pairs.sealed(x, 1, 3, 200, 23, Octets.of(5));
        due("4 the server waits: EARLY", Pairs.hit(x, 1, data, data), 0);
        due("4 counted twice, did not come", x.told(1, EARLY) * 10 + x.told(1, 4), 21);
        x.deliver(1, 0);
        due("4 the server OPEN: it comes", Pairs.hit(x, 1, data, data), 1);
        due("4 delivered", x.got(1), 1);
        x.close(1);
        due("4 the server CLOSED: it comes", Pairs.hit(x, 1, Pairs.sealed(x, 1, 3, 201, 23, Octets.of(6))), 1);
        due("4 delivered", x.got(1), 2);
        Pairs.hit(x, 1, Pairs.sealed(x, 1, 3, 202, 21, Octets.of(1)));
        due("4 the server DEAD: nothing", Pairs.hit(x, 1, Pairs.sealed(x, 1, 3, 203, 23, Octets.of(7))), 0);
        due("4 not delivered, not counted", x.got(1) * 10 + x.told(1, EARLY), 22);
        LossyPair none = Pairs.ready(0, 500);
        Pairs.hit(none, 1, data);
        Pairs.hit(none, 0, data);
        due("4 it waits for HELLO, or to begin: EARLY", none.told(1, EARLY) * 10 + none.told(0, EARLY), 11);
        LossyPair waits = Scenes.answerTaken();
        due("4 the client waits: EARLY", Pairs.hit(waits, 0, Pairs.sealed(waits, 0, 2, 100, 23, Octets.of(5))), 0);
        due("4 counted", waits.told(0, EARLY), 1);
    }

    /** "it is CLOSED: all as OPEN, but it writes no more. One that hears it is told." */
    private static void closedAsOpen() {
        for (int s = 0; s < 2; s++) {
            int side = s;
            LossyPair x = Pairs.clientOpen();
            if (side == 1) {
                x.run(1);
            }
            x.close(side);
            x.draft(1, 1);
            CHECK.state("4 it writes no more", () -> x.write(side));
            x.run(3);
            due("4 the other is told", x.told(1 - side, 9), 1);
            due("4 and stays OPEN", x.state(1 - side), 2);
            due("4 the FLIGHT of one that is CLOSED is OVER, too", x.told(0, TIMER) + x.told(1, TIMER), 0);
            due("4 the other writes", x.write(1 - side) >= 0 ? 1 : 0, 1);
            x.run(1);
            due("4 it hears", x.got(side), 1);
            x.close(1 - side);
            x.run(1);
            due("4 it is told, too", x.told(side, 9), 1);
            due("4 both CLOSED", x.state(0) * 10 + x.state(1), 33);
        }
        LossyPair dead = Pairs.clientOpen();
        dead.close(0);
        tickAndLose(dead, 219);
        due("4 CLOSED", dead.state(0), 3);
        tickAndLose(dead, 1);
        due("4 the ninth: DEAD", dead.state(0), 4);
    }
}
