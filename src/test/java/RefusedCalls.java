import java.util.ArrayList;
import java.util.List;
import java.util.function.Supplier;
import java.util.function.ToLongFunction;

/**
 * "A call that is refused changes nothing" (Terms; and of faults: "nothing changing then"): every
 * reason for which a call can be refused, each on a desk of its own. All that such a desk tells
 * afterwards must be what one tells that was made the same way, but without the refused call.
 */
public final class RefusedCalls {
    private static final long MOST = Desk.MOST;
    private static final int P = Desk.P;
    private static final int A = Desk.A;
    private static final int BOND = Desk.BOND;
    private static final int MONEY = Desk.MONEY;
    private static final int OTHER = Desk.OTHER;
    private static final int SHARE = Desk.SHARE;
    private static final int NOT_MADE = Desk.NOT_MADE;
    private static final int[] NO_CLIENTS = {Integer.MIN_VALUE, -1, 0, P, Integer.MAX_VALUE};
    private static final int[] NO_ASSETS = {Integer.MIN_VALUE, -1, NOT_MADE, A, Integer.MAX_VALUE};
    private static final int[] CURRENCIES = {MONEY, OTHER};
    private static final long[] NO_AMOUNTS = {Long.MIN_VALUE, -1, 0, MOST + 1, Long.MAX_VALUE};
    private static final long[] NO_PRICES = {Long.MIN_VALUE, -1, MOST + 1, Long.MAX_VALUE};
    private static final int[] NO_HAIRCUTS = {Integer.MIN_VALUE, -1, 100, Integer.MAX_VALUE};

    private static final Check CHECK = new Check();

    // ---- desks in the midst of their day

    /**
     * Pledges, credit in use, limits, payments with and without a limit, and two legs that hold. 1
     * has -300 of the money and 960 of credit, 8 of 10 bonds pledged; 2 paid 30 to 1, 3 paid 20 to 2.
     */
    private static Desk busy() {
        Desk x = Desk.funded();
        x.pledge(1, BOND, 8);
        x.pledge(2, SHARE, 3);
        x.back(1, MONEY, 430);
        x.limit(1, 2, 50);
        x.limit(2, 1, 60);
        x.limit(3, 1, 0);
        x.leg(2, 1, MONEY, 30);
        x.leg(3, 2, MONEY, 20);
        x.post();
        x.leg(1, 2, MONEY, 10);
        x.leg(2, 3, OTHER, 5);
        return x;
    }

    private static Desk busyWithFourLegs() {
        Desk x = busy();
        x.leg(4, 5, MONEY, 8);
        x.leg(5, 4, MONEY, 8);
        return x;
    }

    private static Desk fullOfAssets() {
        Desk x = busy();
        x.security(9, 9);
        return x;
    }

    /** All the credit that there may be is in use. */
    private static Desk fullOfCredit() {
        Desk x = busy();
        x.price(SHARE, 1, 0);
        x.security(1_000_000, 0);
        x.give(4, NOT_MADE, MOST);
        x.pledge(4, NOT_MADE, 3_999_999_999_999L);
        x.give(5, SHARE, MOST);
        x.pledge(5, SHARE, 999_037);
        return x;
    }

    /** 40 limits; 7 has none towards 5 and 6, and paid 5 to 6. */
    private static Desk fullOfLimits() {
        Desk x = new Desk(8, 1);
        x.currency();
        x.give(7, 0, 9);
        x.leg(7, 6, 0, 5);
        x.post();
        for (int p = 1; p < 8; p++) {
            for (int q = 1; q < 8; q++) {
                boolean leftOut = p == 7 && q >= 5;
                if (p != q && !leftOut) {
                    x.limit(p, q, 10 * p + q);
                }
            }
        }
        return x;
    }

    // ---- all that a desk tells

    private static List<Long> allAnswers(Desk x, int participants, int assets) {
        List<Long> answers = new ArrayList<>();
        for (int n = 0; n < participants * (assets + participants); n++) {
            if (n < participants * assets || n > participants * (assets + 1)) {
                answers.add(x.isThere(n) ? 1L : 0L);
                answers.add(x.value(n));
                answers.add(x.net(n));
            }
            if (n < participants * assets) {
                answers.add(x.floor(n));
            }
        }
        for (int p = 1; p < participants; p++) {
            answers.add(x.credit(p));
        }
        answers.add(x.holds() ? 1L : 0L);
        addHiddenAnswers(x, participants, assets, answers);
        return answers;
    }

    /** What only further calls show: prices, what was paid without a limit, legs without a room, and the counts. */
    private static void addHiddenAnswers(Desk x, int participants, int assets, List<Long> answers) {
        for (int a = 0; a < assets; a++) {
            answers.add((long) x.give(3, a, 100));
            answers.add((long) x.pledge(3, a, 100));
            answers.add(x.credit(3));
        }
        for (int p = 1; p < participants; p++) {
            for (int q = p + 1; q < participants; q++) {
                int room = participants * assets + p * participants + q;
                answers.add((long) x.limit(p, q, MOST));
                answers.add(x.value(room));
                answers.add(x.net(room));
            }
        }
        answers.add((long) x.limit(participants - 1, 1, MOST));
        answers.add((long) x.drop());
        answers.add((long) x.currency());
    }

    private static void refused(String why, Supplier<Desk> made, ToLongFunction<Desk> call, long want, int[] size) {
        CHECK.sentence("Terms, A call that is refused changes nothing", why);
        Desk untouched = made.get();
        Desk desk = made.get();
        CHECK.due("the refused call", call.applyAsLong(desk), want);
        List<Long> due = allAnswers(untouched, size[0], size[1]);
        List<Long> got = allAnswers(desk, size[0], size[1]);
        for (int i = 0; i < due.size(); i++) {
            CHECK.due("answer " + i + " after the refused call", got.get(i), due.get(i));
        }
    }

    private static void refused(String why, Supplier<Desk> made, ToLongFunction<Desk> call, long want) {
        refused(why, made, call, want, new int[] {P, A});
    }

    private static void refused(String why, ToLongFunction<Desk> call, long want) {
        refused(why, RefusedCalls::busy, call, want);
    }

    // ---- assets

    private static void newAssets() {
        refused("currency: -1 if there are A assets", RefusedCalls::fullOfAssets, x -> x.currency(), -1);
        refused("security: -1 if there are A assets", RefusedCalls::fullOfAssets, x -> x.security(5, 5), -1);
        for (long price : NO_PRICES) {
            refused("security: price " + price, x -> x.security(price, 5), -1);
            refused("price: price " + price, x -> x.price(BOND, price, 5), 8);
        }
        for (int haircut : NO_HAIRCUTS) {
            refused("security: haircut " + haircut, x -> x.security(5, haircut), -1);
            refused("price: haircut " + haircut, x -> x.price(BOND, 5, haircut), 8);
        }
    }

    private static void prices() {
        for (int a : NO_ASSETS) {
            refused("price: no such asset " + a, x -> x.price(a, 5, 5), 8);
        }
        for (int a : CURRENCIES) {
            refused("price: not of the sort " + a, x -> x.price(a, 5, 5), 8);
        }
        refused("price: below the floor of 1", x -> x.price(BOND, 46, 20), 9);
        refused("price: below the floor by the haircut", x -> x.price(BOND, 150, 76), 9);
        refused("price: 0", x -> x.price(BOND, 0, 0), 9);
        refused("price: all credits", RefusedCalls::fullOfCredit, x -> x.price(SHARE, 2, 0), 10);
        refused("price: all credits, by far", RefusedCalls::fullOfCredit, x -> x.price(BOND, MOST, 0), 10);
        refused("price: all credits, by the haircut", RefusedCalls::fullOfCredit, x -> x.price(BOND, 150, 19), 10);
    }

    // ---- the bank, pledges

    private static void amounts() {
        for (long v : NO_AMOUNTS) {
            refused("give: amount " + v, x -> x.give(1, MONEY, v), 8);
            refused("back: amount " + v, x -> x.back(2, MONEY, v), 8);
            refused("pledge: amount " + v, x -> x.pledge(1, BOND, v), 8);
            refused("free: amount " + v, x -> x.free(2, SHARE, v), 8);
            refused("leg: amount " + v, x -> x.leg(1, 2, MONEY, v), 8);
        }
        for (int p : NO_CLIENTS) {
            refused("give: participant " + p, x -> x.give(p, MONEY, 1), 8);
            refused("back: participant " + p, x -> x.back(p, MONEY, 1), 8);
            refused("pledge: participant " + p, x -> x.pledge(p, BOND, 1), 8);
            refused("free: participant " + p, x -> x.free(p, BOND, 1), 8);
            refused("leg: from " + p, x -> x.leg(p, 2, MONEY, 1), 8);
            refused("leg: to " + p, x -> x.leg(1, p, MONEY, 1), 8);
        }
        for (int a : NO_ASSETS) {
            refused("give: no such asset " + a, x -> x.give(1, a, 1), 8);
            refused("back: no such asset " + a, x -> x.back(1, a, 1), 8);
            refused("pledge: no such asset " + a, x -> x.pledge(1, a, 1), 8);
            refused("free: no such asset " + a, x -> x.free(1, a, 1), 8);
            refused("leg: no such asset " + a, x -> x.leg(1, 2, a, 1), 8);
        }
    }

    private static void backs() {
        refused("back: the money of 1 below its floor", x -> x.back(1, MONEY, 661), 9);
        refused("back: the money of 3 below its floor", x -> x.back(3, MONEY, 81), 9);
        refused("back: another currency", x -> x.back(1, OTHER, 101), 9);
        refused("back: a security", x -> x.back(1, BOND, 3), 9);
        refused("back: by far", x -> x.back(1, OTHER, MOST), 9);
    }

    private static void pledges() {
        for (int a : CURRENCIES) {
            refused("pledge: not of the sort " + a, x -> x.pledge(1, a, 1), 8);
            refused("free: not of the sort " + a, x -> x.free(1, a, 1), 8);
        }
        refused("pledge: below its floor", x -> x.pledge(1, BOND, 3), 9);
        refused("pledge: by far", x -> x.pledge(2, BOND, MOST), 9);
        refused("pledge: all credits", RefusedCalls::fullOfCredit, x -> x.pledge(5, SHARE, 1), 10);
        refused("pledge: all credits, by far", RefusedCalls::fullOfCredit, x -> x.pledge(4, NOT_MADE, 1_000_000), 10);
        refused("free: more than is pledged", x -> x.free(1, BOND, 9), 8);
        refused("free: of what is held alone", x -> x.free(1, SHARE, 1), 8);
        refused("free: another's", x -> x.free(3, BOND, 1), 8);
        refused("free: the money below its floor", x -> x.free(1, BOND, 6), 9);
        refused("free: all", x -> x.free(1, BOND, 8), 9);
    }

    // ---- limits

    private static void limits() {
        for (int p : NO_CLIENTS) {
            refused("limit: of " + p, x -> x.limit(p, 2, 5), 8);
            refused("limit: towards " + p, x -> x.limit(1, p, 5), 8);
            refused("open: of " + p, x -> x.open(p, 2), 8);
            refused("open: towards " + p, x -> x.open(1, p), 8);
        }
        for (long v : NO_PRICES) {
            refused("limit: " + v + " in place of another", x -> x.limit(1, 2, v), 8);
            refused("limit: " + v, x -> x.limit(3, 2, v), 8);
        }
        refused("limit: p is q", x -> x.limit(1, 1, 5), 8);
        refused("limit: below what was paid, in place of another", x -> x.limit(2, 1, 29), 9);
        refused("limit: below what was paid", x -> x.limit(3, 2, 19), 9);
        refused("open: p is q", x -> x.open(1, 1), 8);
        refused("open: there was none", x -> x.open(3, 2), 8);
        refused("open: there was none but the reverse", x -> x.open(1, 3), 8);
    }

    private static void noPlaceForLimits() {
        int[] size = {8, 1};
        refused("limit: there are 40 others", RefusedCalls::fullOfLimits, x -> x.limit(7, 5, 0), 12, size);
        refused("limit: there are 40 others", RefusedCalls::fullOfLimits, x -> x.limit(7, 6, 5), 12, size);
        refused("limit: below what was paid", RefusedCalls::fullOfLimits, x -> x.limit(7, 6, 4), 9, size);
        refused("limit: what can't be", RefusedCalls::fullOfLimits, x -> x.limit(7, 7, 4), 8, size);
        refused("open: there was none", RefusedCalls::fullOfLimits, x -> x.open(7, 5), 8, size);
    }

    // ---- legs

    private static void legs() {
        refused("leg: from is to", x -> x.leg(1, 1, MONEY, 5), 8);
        refused("leg: there are 4", RefusedCalls::busyWithFourLegs, x -> x.leg(1, 2, MONEY, 5), 12);
        refused("leg: there are 4", RefusedCalls::busyWithFourLegs, x -> x.leg(2, 1, BOND, MOST), 12);
        refused("leg: what can't be, and there are 4", RefusedCalls::busyWithFourLegs, x -> x.leg(2, 2, BOND, 5), 8);
    }

    private static Desk withLeg(int from, int to, int a, long v) {
        Desk x = busy();
        x.leg(from, to, a, v);
        return x;
    }

    private static void posts() {
        refused("post: a room", () -> withLeg(1, 2, MONEY, 71), x -> x.post() ? 1 : 0, 0);
        refused("post: the money", () -> withLeg(2, 3, MONEY, 115), x -> x.post() ? 1 : 0, 0);
        refused("post: another currency", () -> withLeg(1, 4, OTHER, 101), x -> x.post() ? 1 : 0, 0);
        refused("post: a security", () -> withLeg(1, 4, BOND, 3), x -> x.post() ? 1 : 0, 0);
        refused("post: a room of 0", () -> withLeg(3, 1, MONEY, 1), x -> x.post() ? 1 : 0, 0);
    }

    /** A call that only tells something changes nothing, too. */
    private static void questions() {
        refused("holds", x -> x.holds() ? 1 : 0, 1);
        refused("net", x -> x.net(Desk.position(1, MONEY)), -10);
        refused("value", x -> x.value(Desk.room(2, 1)), 30);
        refused("floor", x -> x.floor(Desk.position(1, BOND)), 8);
        refused("isThere", x -> x.isThere(Desk.room(1, 2)) ? 1 : 0, 1);
        refused("credit", x -> x.credit(1), 960);
    }

    /** Beside each refusal stands what is just not refused, so that the desks are at their edges indeed. */
    private static void justNotRefused() {
        CHECK.sentence("Terms, A call that is refused changes nothing", "just not refused");
        CHECK.due("price", busy().price(BOND, 47, 20), 0);
        CHECK.due("haircut", busy().price(BOND, 150, 75), 0);
        CHECK.due("price", fullOfCredit().price(SHARE, 1, 0), 0);
        CHECK.due("back", busy().back(1, MONEY, 660), 0);
        CHECK.due("back", busy().back(3, MONEY, 80), 0);
        CHECK.due("back", busy().back(1, OTHER, 100), 0);
        CHECK.due("back", busy().back(1, BOND, 2), 0);
        CHECK.due("pledge", busy().pledge(1, BOND, 2), 0);
        CHECK.due("free", busy().free(2, SHARE, 3), 0);
        CHECK.due("free", busy().free(1, BOND, 5), 0);
        CHECK.due("limit", busy().limit(2, 1, 30), 0);
        CHECK.due("limit", busy().limit(3, 2, 20), 0);
        CHECK.due("limit", fullOfLimits().limit(7, 4, 0), 0);
        CHECK.due("post", withLeg(1, 2, MONEY, 70).post(), true);
        CHECK.due("post", withLeg(2, 3, MONEY, 114).post(), true);
        CHECK.due("post", withLeg(1, 4, OTHER, 100).post(), true);
        CHECK.due("post", withLeg(1, 4, BOND, 2).post(), true);
        CHECK.due("post", busyWithFourLegs().post(), true);
    }

    public static void main(String[] args) {
        newAssets();
        prices();
        amounts();
        backs();
        pledges();
        limits();
        noPlaceForLimits();
        legs();
        posts();
        questions();
        justNotRefused();
        CHECK.end();
    }
}
