/**
 * A PositionDesk that counts its calls, since nothing is promised after the 512th: a test that
 * makes more of them is itself wrong, and ends.
 */
final class Desk {
    static final int MOST_CALLS = 512;
    static final long MOST = 999_999_999_999_999L;
    static final long TOP = 4_000_000_000_000_000_000L;

    /** The usual desk: its P is not its A, its money is not its first asset, and the last place is free. */
    static final int P = 6;
    static final int A = 5;
    static final int BOND = 0;
    static final int MONEY = 1;
    static final int OTHER = 2;
    static final int SHARE = 3;
    static final int NOT_MADE = 4;

    private final PositionDesk desk;
    private int calls = 0;

    Desk(int participants, int assets) {
        desk = new PositionDesk(participants, assets);
    }

    /** BOND has price 150 and haircut 20, so 120 of credit each; SHARE price 7 and haircut 33, so 4.69 each. */
    static Desk usual() {
        Desk x = new Desk(P, A);
        x.security(150, 20);
        x.currency();
        x.currency();
        x.security(7, 33);
        return x;
    }

    /** 1, 2 and 3 have 100 of each currency and 10 of each security; 4 and 5 have nothing. */
    static Desk funded() {
        Desk x = usual();
        for (int p = 1; p <= 3; p++) {
            x.give(p, BOND, 10);
            x.give(p, MONEY, 100);
            x.give(p, OTHER, 100);
            x.give(p, SHARE, 10);
        }
        return x;
    }

    static int position(int p, int a) {
        return p * A + a;
    }

    static int room(int p, int q) {
        return P * A + p * P + q;
    }

    int calls() {
        return calls;
    }

    private PositionDesk counted() {
        calls++;
        if (calls > MOST_CALLS) {
            throw new IllegalStateException("this test makes more than 512 calls");
        }
        return desk;
    }

    int currency() {
        return counted().currency();
    }

    int security(long price, int haircut) {
        return counted().security(price, haircut);
    }

    int price(int a, long price, int haircut) {
        return counted().price(a, price, haircut);
    }

    int give(int p, int a, long v) {
        return counted().give(p, a, v);
    }

    int back(int p, int a, long v) {
        return counted().back(p, a, v);
    }

    int pledge(int p, int a, long v) {
        return counted().pledge(p, a, v);
    }

    int free(int p, int a, long v) {
        return counted().free(p, a, v);
    }

    int limit(int p, int q, long v) {
        return counted().limit(p, q, v);
    }

    int open(int p, int q) {
        return counted().open(p, q);
    }

    int leg(int from, int to, int a, long v) {
        return counted().leg(from, to, a, v);
    }

    boolean holds() {
        return counted().holds();
    }

    boolean post() {
        return counted().post();
    }

    int drop() {
        return counted().drop();
    }

    long net(int position) {
        return counted().net(position);
    }

    long value(int position) {
        return counted().value(position);
    }

    long floor(int position) {
        return counted().floor(position);
    }

    boolean isThere(int position) {
        return counted().isThere(position);
    }

    long credit(int p) {
        return counted().credit(p);
    }

    void day() {
        counted().day();
    }
}
