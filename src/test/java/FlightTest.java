import java.util.Arrays;

/** FLIGHTS: FRAGMENTS, TIMERS, SENDINGS AGAIN, ACKS and LIST (promises 10, 14, 19, 24). */
public final class FlightTest {
    private static final Check CHECK = new Check("FlightTest");
    private static final int SENT = 5;
    private static final int AGAIN = 6;
    private static final int TIMER = 7;
    private static final int LISTED = 10;
    private static final int NOT_ACKED = 12;

    private FlightTest() {
    }

    public static void main(String[] args) {
        fragments();
        timer();
        ninth();
        eachFlightHasEight();
        timerOfTheServer();
        listAndAcks();
        acksAtTheSecondTick();
        acksByGreatestEpoch();
        ackedOctets();
        ackedPartly();
        acksOfOtherEpochs();
        acksOfEarlierFlights();
        flightsOver();
        againByFragment();
        againByFragmentAtMostEight();
        againByHello();
        ackedByServer();
        latestEight();
        tickOrder();
        CHECK.end();
    }

    private static void due(String what, long got, long want) {
        CHECK.due(what, got, want);
    }

    private static void same(String what, byte[] got, byte[] want) {
        CHECK.due(what, Arrays.equals(got, want) ? 1 : 0, 1);
    }

    private static byte[] entry(int epoch, int number) {
        return Octets.join(Octets.of(epoch), Octets.u2(number));
    }

    private static LossyPair greeted(int mtu, int many) {
        LossyPair x = Pairs.ready(0, mtu);
        Pairs.draft(x, new byte[many]);
        x.greet();
        x.begin();
        x.deliver(1, 0);
        return x;
    }

    private static void sizes(String what, LossyPair x, int side, int... want) {
        due(what + ": datagrams", x.net(side), want.length);
        for (int i = 0; i < want.length && i < x.net(side); i++) {
            due(what + ": size " + i, x.size(side, i), want[i]);
        }
    }

    private static void fragments() {
        // ANSWER is 34 octets; SETTINGS 22 and its octets, FINISHED 22 and its 32.
        sizes("all in one", greeted(500, 0), 0, 34 + 24 + 54);
        sizes("MTU 112 is just enough", greeted(112, 0), 0, 112);
        sizes("MTU 111", greeted(111, 0), 0, 111, 23);
        sizes("MTU 100", greeted(100, 0), 0, 100, 34);
        // 34 + 22 + 22 are 78: 22 octets of SETTINGS fill the first datagram.
        sizes("GREETING of 19, FINISHED of 1", greeted(100, 19), 0, 100, 53);
        sizes("GREETING of 20, no FINISHED", greeted(100, 20), 0, 78, 54);
        sizes("GREETING of 41", greeted(100, 41), 0, 99, 54);
        sizes("GREETING of 42", greeted(100, 42), 0, 100, 54);
        sizes("GREETING of 43", greeted(100, 43), 0, 100, 77);
        sizes("GREETING of 150", greeted(100, 150), 0, 100, 100, 100, 28);
        sizes("GREETING of 150", greeted(500, 150), 0, 34 + 22 + 152 + 54);
        LossyPair x = greeted(100, 150);
        x.run(3);
        due("it all comes", x.state(0) * 10 + x.state(1), 22);
    }

    private static void timer() {
        LossyPair x = Pairs.begun(0, 500);
        int[] at = {4, 12, 28, 60, 92, 124, 156, 188};
        int[] timers = {8, 16, 32, 32, 32, 32, 32, 32};
        int sent = 1;
        for (int now = 1; now <= 219; now++) {
            due("NOW", x.tick(), now);
            if (sent <= at.length && now == at[sent - 1]) {
                sent++;
                due("TIMER at " + now, x.told(0, TIMER), timers[sent - 2]);
            }
            due("sent at " + now, x.told(0, SENT), sent);
            due("again at " + now, x.told(0, AGAIN), sent - 1);
        }
        due("net", x.net(1), 9);
        for (int i = 0; i < 9; i++) {
            due("new records", x.octet(1, i, 3), i);
            same("the same HELLO", Octets.part(Pairs.datagram(x, 1, i), 4, 75),
                    Octets.part(Pairs.datagram(x, 1, 0), 4, 75));
        }
        due("not DEAD yet", x.state(0), 1);
    }

    private static void ninth() {
        LossyPair x = Pairs.begun(0, 500);
        x.lose(1, 0);
        for (int now = 1; now <= 219; now++) {
            x.tick();
        }
        due("before the ninth", x.state(0), 1);
        due("NOW", x.tick(), 220);
        due("the ninth: DEAD", x.state(0), 4);
        due("nothing is sent", x.told(0, SENT), 9);
        due("again", x.told(0, AGAIN), 8);
        due("no TIMER", x.told(0, TIMER), 0);
        due("not ACKED", x.told(0, NOT_ACKED), 0);
        due("no ALERT", x.told(0, 8), -1);
        Pairs.ticks(x, 64);
        due("nothing is sent any more", x.told(0, SENT), 9);
    }

    private static void eachFlightHasEight() {
        LossyPair x = Pairs.begun(1, 500);
        x.lose(1, 0);
        for (int now = 1; now <= 188; now++) {
            x.tick();
        }
        due("the first HELLO eight times again", x.told(0, AGAIN), 8);
        x.deliver(1, 7);
        x.deliver(0, 0);
        Pairs.loseAll(x);
        due("another FLIGHT", x.told(0, NOT_ACKED), 77);
        due("its TIMER is 4 again", x.told(0, TIMER), 4);
        for (int now = 189; now <= 188 + 219; now++) {
            x.tick();
        }
        due("it is SENT AGAIN eight times, too", x.told(0, AGAIN), 16);
        due("not yet DEAD", x.state(0), 1);
        x.tick();
        due("then DEAD", x.state(0), 4);
    }

    private static void timerOfTheServer() {
        LossyPair x = greeted(100, 0);
        Pairs.ticks(x, 3);
        due("2 datagrams", x.told(1, SENT), 2);
        x.tick();
        due("4 datagrams", x.told(1, SENT), 4);
        due("a SENDING AGAIN is one", x.told(1, AGAIN), 1);
        due("TIMER", x.told(1, TIMER), 8);
        x.run(2);
        due("OPEN", x.state(1), 2);
        due("OVER", x.told(1, TIMER), 0);
        due("OVER", x.told(1, NOT_ACKED), 0);
    }

    private static void listAndAcks() {
        LossyPair x = Pairs.clientOpen();
        due("the client's LIST begins anew", x.told(0, LISTED), 0);
        due("the server's LIST is empty", x.told(1, LISTED), 0);
        x.deliver(1, 0);
        due("OPEN", x.state(1), 2);
        due("LIST has FINISHED", x.told(1, LISTED), 1);
        byte[] want = Octets.sealedRecord(Pairs.secret(x, 1, 3), 3, 0, 26, entry(2, 0));
        same("it ACKS by EPOCH 3", Pairs.datagram(x, 0, 0), want);
        due("not ACKED", x.told(0, NOT_ACKED), 32);
        x.deliver(0, 0);
        due("ACKED", x.told(0, NOT_ACKED), 0);
        due("no TIMER", x.told(0, TIMER), 0);
        due("an ACK is in no LIST", x.told(0, LISTED), 0);
        Pairs.ticks(x, 40);
        due("nothing more is sent", x.net(0) + x.net(1), 0);
    }

    private static void acksAtTheSecondTick() {
        LossyPair x = greeted(100, 150);
        x.deliver(0, 0);
        due("two records", x.told(0, LISTED), 2);
        x.tick();
        due("not yet", x.net(1), 0);
        x.deliver(0, 0);
        due("a third one", x.told(0, LISTED), 3);
        x.tick();
        due("the latest is 1 behind", x.net(1), 0);
        x.tick();
        due("now", x.net(1), 1);
        byte[] entries = Octets.join(entry(0, 0), entry(2, 0), entry(2, 1));
        byte[] want = Octets.sealedRecord(Pairs.secret(x, 0, 0), 2, 0, 26, entries);
        same("LIST in the order in which they came", Pairs.datagram(x, 1, 0), want);
        due("LIST stays", x.told(0, LISTED), 3);
        x.lose(1, 0);
        // At the fourth tick the server sends again; the client ACKS no more by itself.
        Pairs.ticks(x, 3);
        due("once", x.net(1), 0);
    }

    private static void acksByGreatestEpoch() {
        LossyPair x = Pairs.begun(0, 500);
        Pairs.hit(x, 0, Octets.openRecord(22, 700, Octets.fragment(2, 20, 3, 0, new byte[4])));
        Pairs.ticks(x, 2);
        same("without SECRETS by EPOCH 0", Pairs.datagram(x, 1, 1), Octets.openRecord(26, 1, entry(0, 700)));
        LossyPair y = greeted(500, 0);
        Pairs.hit(y, 1, Octets.openRecord(22, 700, Octets.fragment(1, 61, 0, 0, new byte[61])));
        Pairs.ticks(y, 2);
        byte[] want = Octets.sealedRecord(Pairs.secret(y, 1, 3), 3, 0, 26, entry(0, 700));
        same("the server by EPOCH 3", Pairs.datagram(y, 0, 1), want);
        LossyPair z = Pairs.ready(0, 500);
        Pairs.hit(z, 0, Octets.openRecord(22, 0, Octets.fragment(2, 20, 0, 0, new byte[4])));
        due("no LIST before it begins", z.told(0, LISTED), 0);
        Pairs.ticks(z, 3);
        due("nothing is sent", z.net(1), 0);
    }

    private static void ackedOctets() {
        LossyPair x = greeted(100, 150);
        due("not ACKED", x.told(1, NOT_ACKED), 204);
        x.deliver(0, 0);
        x.deliver(0, 1);
        Pairs.ticks(x, 2);
        due("an ACK", x.net(1), 1);
        x.deliver(1, 0);
        // In the first datagram 20 + 44 octets, in the third 78.
        due("not ACKED", x.told(1, NOT_ACKED), 204 - 20 - 44 - 30 - 26);
        due("its TIMER stays", x.told(1, TIMER), 4);
        Pairs.loseAll(x);
        Pairs.ticks(x, 2);
        sizes("what was not ACKED", x, 0, 100, 28);
        due("not ACKED", x.told(1, NOT_ACKED), 84);
        x.deliver(0, 0);
        x.deliver(0, 0);
        due("it all came", x.state(0), 2);
    }

    private static void ackedPartly() {
        LossyPair x = greeted(100, 150);
        // Octets 44 to 121 of SETTINGS came: those before and behind are sent as FRAGMENTS of their own.
        byte[] list = entry(2, 1);
        Pairs.hit(x, 1, Pairs.sealed(x, 1, 2, 9, 26, list));
        due("not ACKED", x.told(1, NOT_ACKED), 204 - 78);
        Pairs.loseAll(x);
        Pairs.ticks(x, 4);
        sizes("three FRAGMENTS", x, 0, 34 + 22 + 44, 22 + 30 + 22 + 26, 22 + 6);
        Pairs.hit(x, 1, Pairs.sealed(x, 1, 2, 10, 26, entry(2, 0)));
        due("of any sending", x.told(1, NOT_ACKED), 204 - 78 - 44);
        Pairs.hit(x, 1, Pairs.sealed(x, 1, 2, 11, 26, entry(2, 0)));
        due("once more", x.told(1, NOT_ACKED), 204 - 78 - 44);
        Pairs.hit(x, 1, Pairs.sealed(x, 1, 2, 12, 26, entry(2, 999)));
        due("of no record", x.told(1, NOT_ACKED), 204 - 78 - 44);
    }

    private static void acksOfOtherEpochs() {
        LossyPair x = greeted(500, 0);
        Pairs.hit(x, 1, Octets.openRecord(26, 9, Octets.join(entry(2, 0), entry(2, 1))));
        due("EPOCH 2 by EPOCH 0", x.told(1, NOT_ACKED), 54);
        Pairs.hit(x, 1, Octets.openRecord(26, 10, entry(0, 0)));
        due("EPOCH 0 by EPOCH 0", x.told(1, NOT_ACKED), 34);
        Pairs.hit(x, 1, Pairs.sealed(x, 1, 3, 9, 26, entry(2, 0)));
        due("EPOCH 2 by EPOCH 3", x.told(1, NOT_ACKED), 32);
        Pairs.hit(x, 1, Pairs.sealed(x, 1, 2, 9, 26, Octets.join(entry(3, 1), entry(255, 1))));
        due("EPOCH 3 by EPOCH 2", x.told(1, NOT_ACKED), 32);
        Pairs.hit(x, 1, Pairs.sealed(x, 1, 2, 10, 26, entry(2, 1)));
        due("all", x.told(1, NOT_ACKED), 0);
        due("OVER", x.told(1, TIMER), 0);
        due("it waits yet", x.state(1), 1);
        Pairs.ticks(x, 64);
        due("nothing is SENT AGAIN", x.told(1, AGAIN), 0);
    }

    private static void acksOfEarlierFlights() {
        LossyPair x = Pairs.begun(1, 500);
        x.run(1);
        due("HELLO with COOKIE", x.told(0, NOT_ACKED), 77);
        Pairs.hit(x, 0, Octets.openRecord(26, 50, entry(0, 0)));
        due("a record of the FLIGHT before", x.told(0, NOT_ACKED), 77);
        Pairs.hit(x, 0, Octets.openRecord(26, 51, entry(0, 1)));
        due("a record of this one", x.told(0, NOT_ACKED), 0);
        due("OVER", x.told(0, TIMER), 0);
        x.deliver(1, 0);
        x.run(2);
        due("and yet it goes on", x.state(0), 2);
    }

    private static void flightsOver() {
        LossyPair x = Pairs.begun(0, 100);
        x.deliver(1, 0);
        due("HELLO's TIMER", x.told(0, TIMER), 4);
        x.deliver(0, 0);
        due("ANSWER is taken", x.told(0, TIMER), 0);
        due("ANSWER is taken", x.told(0, NOT_ACKED), 0);
        LossyPair y = Pairs.clientOpen();
        y.deliver(1, 0);
        y.lose(0, 0);
        Pairs.write(y, 1, "data");
        due("FINISHED's TIMER", y.told(0, TIMER), 4);
        y.deliver(0, 0);
        due("DATA came", y.told(0, TIMER), 0);
        due("DATA came", y.told(0, NOT_ACKED), 0);
        LossyPair z = Pairs.clientOpen();
        due("the server's TIMER", z.told(1, TIMER), 4);
        due("the server's octets", z.told(1, NOT_ACKED), 54);
        z.deliver(1, 0);
        due("it is OPEN", z.told(1, TIMER), 0);
        due("it is OPEN", z.told(1, NOT_ACKED), 0);
    }

    private static void againByFragment() {
        LossyPair x = Pairs.clientOpen();
        x.lose(1, 0);
        byte[] fragment = Octets.fragment(20, 32, 2, 0, new byte[3]);
        Pairs.hit(x, 0, Pairs.sealed(x, 0, 2, 20, 22, fragment));
        due("NOW is not above", x.told(0, AGAIN), 0);
        x.tick();
        Pairs.hit(x, 0, Pairs.sealed(x, 0, 2, 21, 22, fragment), Pairs.sealed(x, 0, 2, 22, 22, fragment));
        due("once in a TICK", x.told(0, AGAIN), 1);
        due("its TIMER stays as long", x.told(0, TIMER), 4);
        due("it is in the net", x.net(1), 1);
        due("LIST", x.told(0, LISTED), 3);
        Pairs.ticks(x, 3);
        due("the TIMER counts from then", x.told(0, AGAIN), 1);
        x.tick();
        due("4 behind", x.told(0, AGAIN), 2);
        due("twice as long", x.told(0, TIMER), 8);
        Pairs.hit(x, 0, Pairs.sealed(x, 0, 2, 23, 22, Octets.fragment(20, 32, 3, 0, new byte[3])));
        x.tick();
        Pairs.hit(x, 0, Pairs.sealed(x, 0, 2, 24, 22, Octets.fragment(20, 32, 3, 0, new byte[3])));
        due("a NUMBER that was not taken", x.told(0, AGAIN), 2);
        x.close(0);
        Pairs.hit(x, 0, Pairs.sealed(x, 0, 2, 25, 22, fragment));
        due("CLOSED, as OPEN", x.told(0, AGAIN), 3);
        x.run(1);
        x.tick();
        due("ACKED", x.told(0, TIMER), 0);
        Pairs.hit(x, 0, Pairs.sealed(x, 0, 2, 26, 22, fragment));
        due("OVER", x.told(0, AGAIN), 3);
    }

    private static void againByFragmentAtMostEight() {
        LossyPair x = Pairs.clientOpen();
        byte[] fragment = Octets.fragment(20, 32, 2, 0, new byte[3]);
        for (int i = 1; i <= 8; i++) {
            x.tick();
            Pairs.hit(x, 0, Pairs.sealed(x, 0, 2, 20 + i, 22, fragment));
            due("again", x.told(0, AGAIN), i);
        }
        Pairs.loseAll(x);
        x.tick();
        due("it comes", Pairs.hit(x, 0, Pairs.sealed(x, 0, 2, 29, 22, fragment)), 1);
        due("a ninth one by a FRAGMENT: nothing", x.told(0, AGAIN), 8);
        due("nothing is sent", x.net(1), 0);
        due("its TIMER goes on", x.told(0, TIMER), 4);
        Pairs.ticks(x, 2);
        due("not yet", x.state(0), 2);
        x.tick();
        due("a ninth one by the TIMER: DEAD", x.state(0), 4);
    }

    private static void againByHello() {
        LossyPair x = greeted(500, 0);
        byte[] hello = Octets.fragment(1, 61, 0, 0, new byte[61]);
        Pairs.hit(x, 1, Octets.openRecord(22, 20, hello));
        due("NOW is not above", x.told(1, AGAIN), 0);
        x.tick();
        Pairs.hit(x, 1, Octets.openRecord(22, 21, hello));
        due("HELLO again", x.told(1, AGAIN), 1);
        due("its TIMER stays as long", x.told(1, TIMER), 4);
        x.tick();
        Pairs.hit(x, 1, Pairs.sealed(x, 1, 2, 21, 22, Octets.fragment(20, 32, 0, 0, new byte[2])));
        due("another kind", x.told(1, AGAIN), 1);
        // A client that waits is sent HELLO's answer again, and sends nothing again itself.
        LossyPair y = Pairs.begun(0, 100);
        y.deliver(1, 0);
        y.deliver(0, 0);
        y.tick();
        Pairs.hit(y, 0, Octets.openRecord(22, 30, Octets.fragment(2, 20, 0, 0, new byte[20])));
        due("a client that waits for more", y.told(0, AGAIN), 0);
        due("ANSWER is not taken again", y.told(0, 8), -1);
    }

    private static void ackedByServer() {
        LossyPair x = Pairs.open();
        int sent = x.told(1, SENT);
        byte[] finished = Octets.fragment(20, 32, 1, 0, new byte[32]);
        Pairs.hit(x, 1, Pairs.sealed(x, 1, 2, 7, 22, finished));
        due("it ACKS", x.told(1, SENT), sent + 1);
        byte[] want = Octets.sealedRecord(Pairs.secret(x, 1, 3), 3, 1, 26, Octets.join(entry(2, 0), entry(2, 7)));
        same("LIST", Pairs.datagram(x, 0, 0), want);
        Pairs.hit(x, 1, Octets.openRecord(22, 8, Octets.fragment(1, 61, 0, 0, new byte[61])));
        due("a HELLO, too", x.told(1, SENT), sent + 2);
        Pairs.hit(x, 1, Pairs.sealed(x, 1, 2, 9, 22, Octets.fragment(20, 32, 2, 0, new byte[32])));
        due("a NUMBER that was not taken", x.told(1, SENT), sent + 2);
        due("LIST has it", x.told(1, LISTED), 4);
        x.close(1);
        Pairs.hit(x, 1, Pairs.sealed(x, 1, 2, 10, 22, finished));
        due("CLOSED, as OPEN", x.told(1, SENT), sent + 4);
        Pairs.ticks(x, 5);
        due("not by the TICK", x.told(1, SENT), sent + 4);
    }

    private static void latestEight() {
        LossyPair x = Pairs.open();
        byte[] want = new byte[0];
        for (int n = 1; n <= 12; n++) {
            boolean open = n % 3 == 0;
            Pairs.hit(x, 1, open
                    ? Octets.openRecord(22, 50 - n, Octets.fragment(1, 61, 0, 0, new byte[61]))
                    : Pairs.sealed(x, 1, 2, 50 - n, 22, Octets.fragment(20, 32, 1, 0, new byte[32])));
            due("LIST", x.told(1, LISTED), Math.min(8, n + 1));
            want = n > 4 ? Octets.join(want, entry(open ? 0 : 2, 50 - n)) : want;
        }
        byte[] record = Octets.sealedRecord(Pairs.secret(x, 1, 3), 3, 12, 26, want);
        same("the latest 8, in the order in which they came", Pairs.datagram(x, 0, 11), record);
    }

    private static void tickOrder() {
        LossyPair x = Pairs.begun(0, 500);
        Pairs.ticks(x, 2);
        Pairs.hit(x, 0, Octets.openRecord(22, 5, Octets.fragment(2, 20, 2, 0, new byte[4])));
        Pairs.loseAll(x);
        Pairs.ticks(x, 2);
        due("an ACK and HELLO at one TICK", x.net(1), 2);
        due("first it ACKS", x.octet(1, 0, 0), 26);
        due("then its TIMER", x.octet(1, 1, 0), 22);
    }
}
