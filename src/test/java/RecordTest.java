/** RECORDS as they come: MALFORMED, EARLY, STALE, FORGED, or CAME (promises 14, 24). */
public final class RecordTest {
    private static final int MALFORMED = 0;
    private static final int EARLY = 1;
    private static final int STALE = 2;
    private static final int FORGED = 3;
    private static final int CAME = 4;
    private static final Check CHECK = new Check("RecordTest");

    private RecordTest() {
    }

    public static void main(String[] args) {
        malformedDatagrams();
        malformedEndsIt();
        early();
        forged();
        forgedOctets();
        staleOpen();
        staleSealed();
        contents();
        alerts();
        alertsOfEpochZero();
        deadHearsNothing();
        dataIsEarly();
        dataByEpochTwoIsEarly();
        dataByEpochTwoToOneThatIsOpen();
        sealedAsTold();
        CHECK.end();
    }

    private static void due(String what, long got, long want) {
        CHECK.due(what, got, want);
    }

    private static byte[] ack(int number) {
        return Octets.openRecord(26, number, new byte[0]);
    }

    private static void malformedDatagrams() {
        int[][] wrong = {{20, 0, 0, 0, 0, 0}, {23, 0, 0, 0, 0, 0}, {0}, {255}, {33, 0, 0, 0, 0}, {36, 0, 0, 0, 0},
            {32, 0, 0, 0, 0}, {26, 1, 0, 0, 0, 0}, {26, 0, 0, 0, 0}, {26}, {26, 0, 0, 0, 0, 1}, {22, 0, 0, 0, 255, 255},
            {34, 0, 0, 0}, {34, 0, 0, 0, 9, 1, 2, 3}, {35}};
        for (int[] w : wrong) {
            LossyPair x = Pairs.open();
            for (int side = 0; side < 2; side++) {
                int before = x.told(side, CAME);
                due("MALFORMED", Pairs.hit(x, side, Octets.of(w)), 0);
                due("MALFORMED is counted", x.told(side, MALFORMED), 1);
                due("it did not come", x.told(side, CAME), before);
                due("nothing else", x.told(side, EARLY) + x.told(side, STALE) + x.told(side, FORGED), 0);
            }
        }
    }

    private static void malformedEndsIt() {
        LossyPair x = Pairs.ready(0, 500);
        due("up to there", Pairs.hit(x, 1, ack(0), ack(1), Octets.of(1), ack(2)), 2);
        due("MALFORMED once", x.told(1, MALFORMED), 1);
        due("CAME", x.told(1, CAME), 2);
        due("the third one may come yet", Pairs.hit(x, 1, ack(2)), 1);
        byte[][] many = new byte[83][];
        for (int i = 0; i < many.length; i++) {
            many[i] = ack(100 + i);
        }
        due("as many as a datagram can have", Pairs.hit(x, 1, many), 83);
        byte[][] sealed = new byte[100][];
        for (int i = 0; i < sealed.length; i++) {
            sealed[i] = Octets.of(34, 0, 0, 0, 0);
        }
        due("sealed ones, EARLY", Pairs.hit(x, 1, sealed), 0);
        due("sealed ones, EARLY", x.told(1, EARLY), 100);
        LossyPair open = Pairs.open();
        Pairs.hit(open, 1, sealed);
        due("sealed ones, FORGED", open.told(1, FORGED), 100);
    }

    private static void early() {
        LossyPair x = Pairs.clientOpen();
        byte[] finished = Pairs.datagram(x, 1, 0);
        LossyPair y = Pairs.ready(0, 500);
        due("no KEYS", Pairs.hit(y, 1, finished), 0);
        due("EARLY", y.told(1, EARLY), 1);
        due("EARLY goes before FORGED", Pairs.hit(y, 1, Octets.of(34, 0, 0, 0, 0)), 0);
        due("EARLY", y.told(1, EARLY), 2);
        due("the next record is heard", Pairs.hit(y, 1, Octets.of(35, 0, 0, 0, 1, 5), ack(4)), 1);
        due("EARLY", y.told(1, EARLY), 3);
        // A client that took ANSWER has KEYS of EPOCH 2, none of EPOCH 3.
        LossyPair z = Pairs.begun(0, 100);
        z.deliver(1, 0);
        z.deliver(0, 0);
        due("it waits for more", z.state(0), 1);
        Pairs.hit(z, 0, Octets.of(34, 0, 0, 0, 9, 0, 0, 0, 0, 0, 0, 0, 0, 0));
        due("EPOCH 2: FORGED", z.told(0, FORGED), 1);
        Pairs.hit(z, 0, Octets.of(35, 0, 0, 0, 9, 0, 0, 0, 0, 0, 0, 0, 0, 0));
        due("EPOCH 3: EARLY", z.told(0, EARLY), 1);
    }

    private static void forged() {
        LossyPair x = Pairs.open();
        for (int many = 0; many < 9; many++) {
            byte[] record = Octets.join(Octets.of(35, 0, 0, 0, many), new byte[many]);
            due("less than 9 octets", Pairs.hit(x, 1, record), 0);
            due("FORGED", x.told(1, FORGED), many + 1);
        }
        int before = x.told(1, FORGED);
        Pairs.hit(x, 1, Octets.join(Octets.of(35, 77, 66, 0, 9), new byte[9]));
        due("FORGED", x.told(1, FORGED), before + 1);
        byte[] own = Octets.sealedRecord(Pairs.secret(x, 1, 3), 3, 50, 23, Octets.of(1));
        Pairs.hit(x, 1, own);
        due("with the own KEYS", x.told(1, FORGED), before + 2);
        byte[] epoch = Octets.sealedRecord(Pairs.secret(x, 1, 0), 3, 50, 23, Octets.of(1));
        Pairs.hit(x, 1, epoch);
        due("with the KEYS of another EPOCH", x.told(1, FORGED), before + 3);
        due("nothing is delivered", x.got(1), 0);
    }

    private static void forgedOctets() {
        LossyPair x = Pairs.open();
        Pairs.write(x, 0, "forge me");
        int size = x.size(1, 0);
        for (int k = 5; k < size; k++) {
            x.twice(1, 0);
            x.forge(1, 1, k, 1 << k % 8);
            due("octet " + k, x.deliver(1, 1), 0);
        }
        due("all were FORGED, or STALE by the number", x.told(1, FORGED) + x.told(1, STALE), size - 5);
        due("not one was delivered", x.got(1), 0);
        due("the true one comes", x.deliver(1, 0), 1);
        due("it is delivered", x.got(1), 1);
    }

    private static void staleOpen() {
        LossyPair x = Pairs.ready(0, 500);
        due("number 100", Pairs.hit(x, 0, ack(100)), 1);
        due("number 100 again", Pairs.hit(x, 0, ack(100)), 0);
        due("STALE", x.told(0, STALE), 1);
        due("64 below", Pairs.hit(x, 0, ack(36)), 0);
        due("far below", Pairs.hit(x, 0, ack(0)), 0);
        due("STALE", x.told(0, STALE), 3);
        due("63 below", Pairs.hit(x, 0, ack(37)), 1);
        due("63 below again", Pairs.hit(x, 0, ack(37)), 0);
        due("between", Pairs.hit(x, 0, ack(99)), 1);
        due("one above", Pairs.hit(x, 0, ack(101)), 1);
        due("37 is 64 below now, 38 is not", Pairs.hit(x, 0, ack(38)), 1);
        due("100 again", Pairs.hit(x, 0, ack(100)), 0);
        due("64 above", Pairs.hit(x, 0, ack(165)), 1);
        due("101 is 64 below", Pairs.hit(x, 0, ack(101)), 0);
        due("102 did not come", Pairs.hit(x, 0, ack(102)), 1);
        due("the greatest number", Pairs.hit(x, 0, ack(65535)), 1);
        due("65472 is 63 below", Pairs.hit(x, 0, ack(65472)), 1);
        due("65471 is 64 below", Pairs.hit(x, 0, ack(65471)), 0);
        due("twice in one datagram", Pairs.hit(x, 0, ack(65500), ack(65500)), 1);
        due("CAME", x.told(0, CAME), 10);
        due("STALE", x.told(0, STALE), 8);
    }

    private static void staleSealed() {
        LossyPair x = Pairs.open();
        byte[] hundred = Pairs.sealed(x, 1, 3, 100, 23, Octets.of(1));
        due("number 100", Pairs.hit(x, 1, hundred), 1);
        due("number 100 again", Pairs.hit(x, 1, hundred), 0);
        due("STALE", x.told(1, STALE), 1);
        due("64 below", Pairs.hit(x, 1, Pairs.sealed(x, 1, 3, 36, 23, Octets.of(2))), 0);
        due("63 below", Pairs.hit(x, 1, Pairs.sealed(x, 1, 3, 37, 23, Octets.of(3))), 1);
        due("EPOCH 2 has its own window", Pairs.hit(x, 1, Pairs.sealed(x, 1, 2, 1, 26)), 1);
        due("delivered once each", x.got(1), 2);
        byte[] wrong = hundred.clone();
        wrong[5] ^= 1;
        Pairs.hit(x, 1, wrong);
        due("STALE goes before the TAG", x.told(1, STALE), 3);
        due("STALE goes before the TAG", x.told(1, FORGED), 0);
        byte[] high = Pairs.sealed(x, 1, 3, 9000, 23, Octets.of(1));
        high[6] ^= 1;
        Pairs.hit(x, 1, high);
        due("a FORGED one moves no window", Pairs.hit(x, 1, Pairs.sealed(x, 1, 3, 38, 23, Octets.of(4))), 1);
    }

    private static void content(int epoch, int type, int many, boolean sound) {
        LossyPair x = Pairs.open();
        String what = "EPOCH " + epoch + " type " + type + " with " + many + " octets";
        int before = x.told(1, CAME);
        byte[] content = new byte[many];
        byte[] record = epoch == 0
                ? Octets.openRecord(type, 40, content)
                : Octets.sealedRecord(Pairs.secret(x, 1, (epoch - 2) * 2), epoch, 40, type, content);
        due(what + " CAME", Pairs.hit(x, 1, record), 1);
        due(what + " CAME", x.told(1, CAME), before + 1);
        due(what + " MALFORMED", x.told(1, MALFORMED), sound ? 0 : 1);
        due(what + " delivered", x.got(1), type == 23 && sound ? 1 : 0);
        due(what + " heard CLOSE", x.told(1, 9), epoch > 0 && type == 21 && sound ? 1 : 0);
        due(what + " state", x.state(1), 2);
        due(what + " comes once", Pairs.hit(x, 1, record), 0);
    }

    private static void contents() {
        for (int epoch : new int[] {0, 2, 3}) {
            content(epoch, 21, 0, false);
            content(epoch, 21, 1, true);
            content(epoch, 21, 2, false);
            for (int many = 0; many < 7; many++) {
                content(epoch, 26, many, many % 3 == 0);
            }
            content(epoch, 22, 0, false);
            content(epoch, 22, 7, false);
            content(epoch, 22, 8, false);
        }
        for (int many : new int[] {0, 1, 60, 61, 300}) {
            content(3, 23, many, many == 1 || many == 60);
            content(2, 23, many, false);
        }
        for (int type : new int[] {0, 20, 24, 25, 27, 255}) {
            content(2, type, 1, false);
            content(3, type, 1, false);
        }
    }

    private static void alerts() {
        for (int epoch = 2; epoch <= 3; epoch++) {
            for (int side = 0; side < 2; side++) {
                LossyPair x = Pairs.open();
                Pairs.hit(x, side, Pairs.sealed(x, side, epoch, 30, 21, Octets.of(0)));
                due("CLOSE", x.told(side, 9), 1);
                due("CLOSE is no ALERT that is told", x.told(side, 8), -1);
                due("CLOSE: the state stays", x.state(side), 2);
                Pairs.hit(x, side, Pairs.sealed(x, side, epoch, 31, 21, Octets.of(200)));
                due("an ALERT", x.told(side, 8), 200);
                due("DEAD", x.state(side), 4);
                due("nothing is sent", x.net(0) + x.net(1), 0);
                due("the other one is OPEN", x.state(1 - side), 2);
            }
        }
    }

    private static void alertsOfEpochZero() {
        byte[] bad = Octets.openRecord(21, 30, Octets.of(40));
        byte[] close = Octets.openRecord(21, 31, Octets.of(0));
        LossyPair x = Pairs.open();
        for (int side = 0; side < 2; side++) {
            due("it CAME", Pairs.hit(x, side, bad, close), 2);
            due("but is nothing", x.state(side), 2);
            due("but is nothing", x.told(side, 8), -1);
            due("but is nothing", x.told(side, 9), 0);
        }
        LossyPair y = Pairs.begun(0, 500);
        due("no KEYS yet", Pairs.hit(y, 0, close, bad), 2);
        due("CLOSE is heard", y.told(0, 9), 1);
        due("DEAD", y.state(0), 4);
        due("told", y.told(0, 8), 40);
        due("no TIMER", y.told(0, 7), 0);
        due("not ACKED, DEAD", y.told(0, 12), 0);
        LossyPair z = Pairs.ready(0, 500);
        due("a server that waits for HELLO", Pairs.hit(z, 1, bad, close), 1);
        due("DEAD in the midst of a datagram", z.told(1, 9), 0);
        due("DEAD", z.state(1), 4);
        LossyPair later = Pairs.begun(0, 500);
        later.deliver(1, 0);
        Pairs.hit(later, 1, bad);
        due("a server with KEYS of EPOCH 2", later.state(1), 1);
    }

    private static void deadHearsNothing() {
        LossyPair x = Pairs.open();
        Pairs.hit(x, 1, Pairs.sealed(x, 1, 3, 30, 21, Octets.of(7)));
        int[] before = new int[13];
        for (int what = 0; what < 13; what++) {
            before[what] = x.told(1, what);
        }
        due("0 of it came", Pairs.hit(x, 1, ack(60000)), 0);
        due("0 of it came", Pairs.hit(x, 1, Octets.of(1)), 0);
        due("0 of it came", Pairs.hit(x, 1, Pairs.sealed(x, 1, 3, 31, 23, Octets.of(7))), 0);
        due("0 of it came", Pairs.hit(x, 1, Pairs.sealed(x, 1, 3, 32, 21, Octets.of(8))), 0);
        Pairs.write(x, 0, "into the dark");
        due("it comes, and is nothing", x.run(1), 1);
        for (int what = 0; what < 13; what++) {
            due("told " + what, x.told(1, what), before[what]);
        }
        due("got", x.got(1), 0);
    }

    private static void dataIsEarly() {
        LossyPair x = Pairs.clientOpen();
        Pairs.write(x, 0, "too soon");
        x.twice(1, 1);
        int came = x.told(1, CAME);
        due("DATA before FINISHED", x.deliver(1, 1), 0);
        due("EARLY", x.told(1, EARLY), 1);
        due("it did not come", x.told(1, CAME), came);
        due("nothing is delivered", x.got(1), 0);
        due("FINISHED", x.deliver(1, 0), 1);
        due("the same record once more", x.deliver(1, 0), 1);
        due("it is delivered", x.got(1), 1);
        LossyPair y = Pairs.clientOpen();
        y.close(0);
        due("CLOSE is not EARLY", y.deliver(1, 1), 1);
        due("CLOSE is heard", y.told(1, 9), 1);
        y.deliver(1, 0);
        due("then OPEN", y.state(1), 2);
        y.close(1);
        Pairs.hit(y, 1, Pairs.sealed(y, 1, 3, 9, 23, Octets.of(5)));
        due("to one that is CLOSED", y.got(1), 1);
    }

    /** The server, or the client, with SECRETS of EPOCH 2, and waiting for more. */
    private static LossyPair waiting(int side) {
        LossyPair x = Pairs.begun(0, 100);
        x.deliver(1, 0);
        if (side == 0) {
            x.deliver(0, 0);
        }
        due("it waits for more", x.state(side), 1);
        due("it has SECRETS of EPOCH 2", x.secret(side, 0, 0) >= 0 ? 1 : 0, 1);
        return x;
    }

    private static void dataByEpochTwoIsEarly() {
        for (int side = 0; side < 2; side++) {
            for (int many : new int[] {0, 1, 60, 61, 200}) {
                LossyPair x = waiting(side);
                int came = x.told(side, CAME);
                int early = x.told(side, EARLY);
                byte[] data = Pairs.sealed(x, side, 2, 140, 23, new byte[many]);
                due("DATA by EPOCH 2 does not come", Pairs.hit(x, side, data), 0);
                due("nor when it is there again", Pairs.hit(x, side, data, data), 0);
                due("EARLY each time", x.told(side, EARLY), early + 3);
                due("it is not counted as CAME", x.told(side, CAME), came);
                due("what is in it is not looked at", x.told(side, MALFORMED), 0);
                due("its number is not STALE", x.told(side, STALE) + x.told(side, FORGED), 0);
                due("it moves no window", Pairs.hit(x, side, Pairs.sealed(x, side, 2, 30, 26)), 1);
                byte[] ack = Pairs.sealed(x, side, 2, 140, 26);
                due("its number is free, and the datagram goes on", Pairs.hit(x, side, data, ack), 1);
                due("EARLY, and then one CAME", x.told(side, EARLY), early + 4);
                due("the number is STALE then, for DATA too", Pairs.hit(x, side, data), 0);
                due("STALE goes before EARLY DATA", x.told(side, STALE), 1);
                due("STALE goes before EARLY DATA", x.told(side, EARLY), early + 4);
                byte[] forged = Pairs.sealed(x, side, 2, 141, 23, new byte[many]);
                forged[5] ^= 1;
                Pairs.hit(x, side, forged);
                due("FORGED goes before EARLY DATA", x.told(side, FORGED), 1);
                due("nothing is delivered", x.got(side), 0);
                due("it waits yet", x.state(side), 1);
            }
        }
    }

    private static void dataByEpochTwoToOneThatIsOpen() {
        for (int side = 0; side < 2; side++) {
            for (int state = 2; state <= 3; state++) {
                LossyPair x = Pairs.open();
                if (state == 3) {
                    x.close(side);
                }
                due("OPEN, or CLOSED", x.state(side), state);
                int came = x.told(side, CAME);
                byte[] data = Pairs.sealed(x, side, 2, 40, 23, Octets.of(9));
                due("to one that is OPEN it comes", Pairs.hit(x, side, data), 1);
                due("CAME", x.told(side, CAME), came + 1);
                due("but it is MALFORMED", x.told(side, MALFORMED), 1);
                due("not EARLY", x.told(side, EARLY), 0);
                due("nor delivered", x.got(side), 0);
                due("its number came", Pairs.hit(x, side, data), 0);
                due("STALE", x.told(side, STALE), 1);
            }
        }
        // The client's FLIGHT is OVER when DATA is delivered; by what is MALFORMED nothing is done.
        LossyPair y = Pairs.clientOpen();
        Pairs.hit(y, 0, Pairs.sealed(y, 0, 2, 40, 23, Octets.of(9)));
        due("MALFORMED", y.told(0, MALFORMED), 1);
        due("the FLIGHT of the client is not OVER", y.told(0, 12), 32);
        // EARLY at first, and MALFORMED when the same record comes again to the server that is OPEN then.
        byte[] data = Pairs.sealed(y, 1, 2, 40, 23, Octets.of(9));
        due("EARLY", Pairs.hit(y, 1, data), 0);
        due("FINISHED", y.deliver(1, 0), 1);
        due("OPEN", y.state(1), 2);
        due("it comes now", Pairs.hit(y, 1, data), 1);
        due("EARLY once", y.told(1, EARLY), 1);
        due("MALFORMED once", y.told(1, MALFORMED), 1);
    }

    private static void sealedAsTold() {
        LossyPair x = Pairs.open();
        for (int n = 0; n < 3; n++) {
            byte[] text = Octets.of(n, 200, 3, 4, 5);
            Pairs.draft(x, text);
            x.write(0);
            byte[] want = Octets.sealedRecord(Pairs.secret(x, 0, 2), 3, n, 23, text);
            due("SEAL", java.util.Arrays.equals(want, Pairs.datagram(x, 1, n)) ? 1 : 0, 1);
        }
        x.close(1);
        byte[] want = Octets.sealedRecord(Pairs.secret(x, 1, 3), 3, 1, 21, Octets.of(0));
        due("SEAL of CLOSE", java.util.Arrays.equals(want, Pairs.datagram(x, 0, 0)) ? 1 : 0, 1);
    }
}
