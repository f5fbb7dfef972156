/** A handshake without losses, in all eight kinds, at several MTUs; then a writing each way. */
public final class HandshakeTest {
    public static void main(String[] args) {
        Check check = new Check("HandshakeTest");
        int[] mtus = {100, 101, 137, 200, 499, 500};
        for (int wants = 0; wants <= 7; wants++) {
            for (int mtu : mtus) {
                String where = "wants " + wants + " mtu " + mtu + " ";
                LossyPair x = new LossyPair();
                x.make(wants, mtu);
                x.key(0, 11, -12);
                x.key(1, 11, -12);
                x.name(0, 5, 6);
                x.name(1, 5, 8);
                for (int i = 0; i < 15; i++) {
                    x.draft(8, 0x0102030405060708L * i);
                }
                check.due(where + "greet", x.greet(), 120);
                x.begin();
                x.run(4);
                check.due(where + "state(0)", x.state(0), 2);
                check.due(where + "state(1)", x.state(1), 2);
                for (int which = 0; which < 6; which++) {
                    for (int i = 0; i < 32; i++) {
                        check.due(where + "secret", x.secret(0, which, i), x.secret(1, which, i));
                    }
                }
                for (int side = 0; side < 2; side++) {
                    x.draft(3, 0x636261L + side);
                    check.due(where + "write", x.write(side), side == 0 ? 0 : 1);
                    x.run(1);
                    check.due(where + "got", x.got(1 - side), 1);
                    check.due(where + "gotOctet", x.gotOctet(1 - side, 0, -1), 3);
                    check.due(where + "gotOctet", x.gotOctet(1 - side, 0, 0), 97 + side);
                }
                for (int what = 0; what < 4; what++) {
                    check.due(where + "told(0, " + what + ")", x.told(0, what), 0);
                    check.due(where + "told(1, " + what + ")", x.told(1, what), 0);
                }
            }
        }
        check.end();
    }
}
