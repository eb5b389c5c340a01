/** The boundary cases of promises 1 to 20, sentence by sentence, both sides of each edge. */
public final class PromiseSentences {
    private static final long MOST = Desk.MOST;
    private static final int P = Desk.P;
    private static final int A = Desk.A;
    private static final int BOND = Desk.BOND;
    private static final int MONEY = Desk.MONEY;
    private static final int OTHER = Desk.OTHER;
    private static final int SHARE = Desk.SHARE;
    private static final int NOT_MADE = Desk.NOT_MADE;

    /** No position or room has one of these numbers: before the first, behind the last room, and far away. */
    private static final int[] NO_NUMBERS = {Integer.MIN_VALUE, Integer.MIN_VALUE + MONEY, -P * A, -A, -A + MONEY, -1,
        P * A + P * P, P * A + P * P + 1, P * A + P * P + P, 1 << 16, Integer.MAX_VALUE};

    private static final Check CHECK = new Check();

    private static void sentence(int promise, String words) {
        CHECK.sentence("Promise " + promise, words);
    }

    private static void due(String call, long got, long want) {
        CHECK.due(call, got, want);
    }

    private static void due(String call, boolean got, boolean want) {
        CHECK.due(call, got, want);
    }

    private static int position(int p, int a) {
        return Desk.position(p, a);
    }

    private static int room(int p, int q) {
        return Desk.room(p, q);
    }

    private static void pay(Desk x, int from, int to, int a, long v) {
        due("leg(" + from + ", " + to + ", " + a + ", " + v + ")", x.leg(from, to, a, v), 0);
        due("post()", x.post(), true);
    }

    // ---- 1: a new object

    private static void sizes() {
        sentence(1, "P is participants if that is 2 .. 256");
        int[][] participants = {{Integer.MIN_VALUE, 8}, {-2, 8}, {-1, 8}, {0, 8}, {1, 8}, {2, 2}, {3, 3}, {255, 255},
            {256, 256}, {257, 8}, {258, 8}, {512, 8}, {Integer.MAX_VALUE, 8}};
        for (int[] each : participants) {
            hasSize(each[0], 3, each[1], 3);
        }
        sentence(1, "A is assets if that is 1 .. 64");
        int[][] assets = {{Integer.MIN_VALUE, 6}, {-1, 6}, {0, 6}, {1, 1}, {2, 2}, {63, 63}, {64, 64}, {65, 6}, {128, 6},
            {Integer.MAX_VALUE, 6}};
        for (int[] each : assets) {
            hasSize(3, each[0], 3, each[1]);
        }
        sentence(1, "else 8 and 6");
        hasSize(1, 0, 8, 6);
        hasSize(257, 65, 8, 6);
        hasSize(Integer.MAX_VALUE, Integer.MIN_VALUE, 8, 6);
        hasSize(2, 1, 2, 1);
        hasSize(256, 64, 256, 64);
        hasSize(8, 6, 8, 6);
    }

    private static void hasSize(int participants, int assets, int wantP, int wantA) {
        Desk x = new Desk(participants, assets);
        String told = "new PositionDesk(" + participants + ", " + assets + "): ";
        for (int a = 0; a < wantA; a++) {
            due(told + "currency()", x.currency(), a);
        }
        due(told + "currency() of one more", x.currency(), -1);
        due(told + "give to the last", x.give(wantP - 1, wantA - 1, 7), 0);
        due(told + "give to one more", x.give(wantP, 0, 7), 8);
        due(told + "last position", x.value(wantP * wantA - 1), 7);
        due(told + "bank's last position", x.value(wantA - 1), -7);
        due(told + "last is there", x.isThere(wantP * wantA - 1), true);
        due(told + "no room is there", x.isThere(wantP * wantA), false);
        if (wantP > 2) {
            due(told + "limit", x.limit(wantP - 1, 1, 9), 0);
            due(told + "room", x.value(wantP * wantA + (wantP - 1) * wantP + 1), 9);
            due(told + "limit towards one more", x.limit(1, wantP, 9), 8);
        }
    }

    private static void isEmpty() {
        sentence(1, "No assets, no legs.");
        Desk x = new Desk(P, A);
        for (int n = -1; n <= P * A + P * P; n++) {
            due("isThere(" + n + ")", x.isThere(n), false);
            due("value(" + n + ")", x.value(n), 0);
            due("floor(" + n + ")", x.floor(n), 0);
            due("net(" + n + ")", x.net(n), 0);
        }
        due("holds()", x.holds(), true);
        due("post()", x.post(), true);
        due("drop()", x.drop(), 0);
        due("give", x.give(1, 0, 1), 8);
        due("leg", x.leg(1, 2, 0, 1), 8);
        due("price", x.price(0, 1, 1), 8);
        due("open", x.open(1, 2), 8);
        due("credit", x.credit(1), 0);
        due("currency()", x.currency(), 0);
    }

    // ---- 2 to 4: assets

    private static void currencies() {
        sentence(2, "A new currency: its number; -1 if there are A assets.");
        for (int places : new int[] {1, 2, 64}) {
            Desk x = new Desk(P, places);
            for (int a = 0; a < places; a++) {
                due("currency()", x.currency(), a);
                due("isThere", x.isThere(places + a), true);
                due("value", x.value(places + a), 0);
            }
            due("currency() when full", x.currency(), -1);
            due("currency() again", x.currency(), -1);
            due("the last one", x.give(1, places - 1, 1), 0);
            due("none behind it", x.give(1, places, 1), 8);
        }
        Desk y = new Desk(P, 2);
        due("security()", y.security(1, 1), 0);
        due("currency() behind a security", y.currency(), 1);
        due("currency() when full", y.currency(), -1);
    }

    private static void securities() {
        sentence(3, "-1 if there are A assets, or price or haircut is not so");
        Desk x = new Desk(P, 2);
        due("price -1", x.security(-1, 0), -1);
        due("price 10 ^ 15", x.security(MOST + 1, 0), -1);
        due("haircut -1", x.security(0, -1), -1);
        due("haircut 100", x.security(0, 100), -1);
        due("both", x.security(-1, 100), -1);
        due("nothing was made", x.isThere(2), false);
        due("price 0, haircut 0", x.security(0, 0), 0);
        due("price 10 ^ 15 - 1, haircut 99", x.security(MOST, 99), 1);
        due("full", x.security(0, 0), -1);
        due("full, and the price is not so", x.security(-1, 0), -1);
        due("give", x.give(1, 1, 100), 0);
        due("pledge", x.pledge(1, 1, 100), 0);
        due("credit", x.credit(1), MOST);
        due("give", x.give(2, 0, 100), 0);
        due("pledge", x.pledge(2, 0, 100), 0);
        due("credit for price 0", x.credit(2), 0);
    }

    private static void prices() {
        sentence(4, "A security gets another price and haircut: a fault (8 also for these), or 0.");
        Desk x = Desk.funded();
        for (int p = 1; p <= 3; p++) {
            due("pledge", x.pledge(p, BOND, p), 0);
            due("pledge", x.pledge(p, SHARE, 1), 0);
        }
        due("price -1", x.price(BOND, -1, 20), 8);
        due("price 10 ^ 15", x.price(BOND, MOST + 1, 20), 8);
        due("haircut -1", x.price(BOND, 150, -1), 8);
        due("haircut 100", x.price(BOND, 150, 100), 8);
        due("credit", x.credit(3), 364);
        due("price 0, haircut 99", x.price(BOND, 0, 99), 0);
        due("credit of the share", x.credit(3), 4);
        due("price 10 ^ 15 - 1, haircut 0", x.price(BOND, MOST, 0), 0);
        for (int p = 1; p <= 3; p++) {
            due("credit of " + p, x.credit(p), p * MOST + 4);
            due("floor of " + p, x.floor(position(p, MONEY)), -p * MOST - 4);
            due("pledged by " + p, x.floor(position(p, BOND)), p);
        }
        due("another haircut alone", x.price(BOND, MOST, 99), 0);
        due("credit", x.credit(3), 3 * MOST / 100 + 4);
        due("the same once more", x.price(BOND, MOST, 99), 0);
        due("a security that nobody has", x.security(5, 5), NOT_MADE);
        due("price", x.price(NOT_MADE, 6, 0), 0);
        due("give", x.give(4, NOT_MADE, 2), 0);
        due("pledge", x.pledge(4, NOT_MADE, 2), 0);
        due("credit by the new price", x.credit(4), 12);
    }

    // ---- 5 to 8: the bank, pledges

    private static void gives() {
        sentence(5, "The bank gives v of an asset to a participant.");
        Desk x = Desk.usual();
        for (int a = 0; a < NOT_MADE; a++) {
            due("least", x.give(P - 1, a, 1), 0);
            due("value", x.value(position(P - 1, a)), 1);
            due("the bank goes below 0", x.value(a), -1);
            due("most", x.give(1, a, MOST), 0);
            due("value", x.value(position(1, a)), MOST);
            due("the bank", x.value(a), -MOST - 1);
            due("once more", x.give(1, a, MOST), 0);
            due("value", x.value(position(1, a)), 2 * MOST);
        }
    }

    private static void backs() {
        sentence(6, "The bank takes v of an asset from a participant.");
        Desk x = Desk.funded();
        due("1 more than there is", x.back(1, OTHER, 101), 9);
        due("all", x.back(1, OTHER, 100), 0);
        due("value", x.value(position(1, OTHER)), 0);
        due("the bank", x.value(OTHER), -200);
        due("1 of nothing", x.back(1, OTHER, 1), 9);
        due("money without credit, 1 too much", x.back(2, MONEY, 101), 9);
        due("money without credit", x.back(2, MONEY, 100), 0);
        due("pledge", x.pledge(2, SHARE, 10), 0);
        due("credit of 46, 1 too much", x.back(2, MONEY, 47), 9);
        due("credit of 46", x.back(2, MONEY, 46), 0);
        due("value", x.value(position(2, MONEY)), -46);
        due("the pledged", x.back(2, SHARE, 1), 9);
        due("free is refused", x.free(2, SHARE, 1), 9);
        due("back may make the bank's position more than 0", x.back(3, MONEY, 100), 0);
        due("give", x.pledge(3, BOND, 10), 0);
        due("back", x.back(3, MONEY, 1_200), 0);
        due("the bank", x.value(MONEY), 1_146);
    }

    private static void pledges() {
        sentence(7, "A participant pledges v more of a security.");
        Desk x = Desk.funded();
        due("1 more than there is", x.pledge(1, BOND, 11), 9);
        due("floor", x.floor(position(1, BOND)), 0);
        due("least", x.pledge(1, BOND, 1), 0);
        due("floor", x.floor(position(1, BOND)), 1);
        due("1 more than is left", x.pledge(1, BOND, 10), 9);
        due("what is left", x.pledge(1, BOND, 9), 0);
        due("floor", x.floor(position(1, BOND)), 10);
        due("value stays", x.value(position(1, BOND)), 10);
        due("credit", x.credit(1), 1_200);
        due("of nothing", x.pledge(4, BOND, 1), 9);
        due("another security is another", x.pledge(1, SHARE, 11), 9);
        due("another security is another", x.pledge(1, SHARE, 10), 0);
        due("credit of both", x.credit(1), 1_246);
        due("others have none", x.credit(2), 0);
    }

    private static void frees() {
        sentence(8, "A participant pledges v less (8 also if it is more than is pledged).");
        Desk x = Desk.funded();
        due("nothing is pledged", x.free(1, BOND, 1), 8);
        due("pledge", x.pledge(1, BOND, 5), 0);
        due("pledge", x.pledge(2, SHARE, 5), 0);
        due("1 more than is pledged", x.free(1, BOND, 6), 8);
        due("of what is held, but not pledged", x.free(1, SHARE, 1), 8);
        due("another's", x.free(2, BOND, 1), 8);
        due("far more", x.free(1, BOND, MOST), 8);
        due("least", x.free(1, BOND, 1), 0);
        due("floor", x.floor(position(1, BOND)), 4);
        due("credit", x.credit(1), 480);
        due("1 more than is pledged", x.free(1, BOND, 5), 8);
        due("all that is pledged", x.free(1, BOND, 4), 0);
        due("floor", x.floor(position(1, BOND)), 0);
        due("credit", x.credit(1), 0);
        due("nothing is pledged", x.free(1, BOND, 1), 8);
        due("value stays", x.value(position(1, BOND)), 10);
    }

    // ---- 9, 10: limits

    private static void limits() {
        sentence(9, "A limit of p towards q is set, 0 .. 10 ^ 15 - 1, in place of the one before");
        Desk x = Desk.funded();
        for (long v : new long[] {Long.MIN_VALUE, -MOST, -1, MOST + 1, Long.MAX_VALUE}) {
            due("limit(1, 2, " + v + ")", x.limit(1, 2, v), 8);
            due("isThere", x.isThere(room(1, 2)), false);
        }
        for (long v : new long[] {0, 1, MOST - 1, MOST, 0}) {
            due("limit(1, 2, " + v + ")", x.limit(1, 2, v), 0);
            due("value", x.value(room(1, 2)), v);
        }
        due("limit(1, 2, -1)", x.limit(1, 2, -1), 8);
        due("limit(1, 2, 10 ^ 15)", x.limit(1, 2, MOST + 1), 8);
        due("the one before stays", x.isThere(room(1, 2)), true);
        sentence(9, "8 also if p is q");
        for (int p = 1; p < P; p++) {
            due("limit(" + p + ", " + p + ", 5)", x.limit(p, p, 5), 8);
            due("isThere", x.isThere(room(p, p)), false);
            due("limit(" + p + ", next, 5)", x.limit(p, p % (P - 1) + 1, 5), 0);
        }
    }

    /** 8 participants and one asset: 42 rooms could be, of which 40 may be there. */
    private static Desk fortyLimits() {
        Desk x = new Desk(8, 1);
        x.currency();
        x.give(7, 0, 9);
        x.leg(7, 6, 0, 5);
        x.post();
        for (int p = 1; p < 8; p++) {
            for (int q = 1; q < 8; q++) {
                boolean leftOut = p == 7 && q >= 5;
                if (p != q && !leftOut) {
                    due("limit(" + p + ", " + q + ")", x.limit(p, q, 10 * p + q), 0);
                }
            }
        }
        return x;
    }

    private static void fullOfLimits() {
        sentence(9, "12: there are 40 others");
        Desk x = fortyLimits();
        due("the 41st", x.limit(7, 5, 9), 12);
        due("the 41st of 0", x.limit(7, 5, 0), 12);
        due("is not there", x.isThere(8 + 7 * 8 + 5), false);
        due("the 40th is", x.value(8 + 7 * 8 + 4), 74);
        due("one of the 40 gets another", x.limit(7, 4, 75), 0);
        due("value", x.value(8 + 7 * 8 + 4), 75);
        due("the first of the 40 gets another", x.limit(1, 2, 0), 0);
        due("value", x.value(8 + 8 + 2), 0);
        due("8 before 12", x.limit(7, 7, 9), 8);
        due("8 before 12", x.limit(7, 0, 9), 8);
        due("8 before 12", x.limit(7, 5, -1), 8);
        due("9 before 12", x.limit(7, 6, 4), 9);
        due("12", x.limit(7, 6, 5), 12);
        due("a refused open makes no place", x.open(7, 6), 8);
        due("12", x.limit(7, 6, 5), 12);
        x.day();
        due("a day makes no place", x.limit(7, 6, 5), 12);
        due("open", x.open(1, 2), 0);
        due("there is a place", x.limit(7, 6, 4), 0);
        due("and no other", x.limit(1, 2, 12), 12);
        for (int p = 1; p < 7; p++) {
            for (int q = 1; q < 8; q++) {
                boolean opened = p == 1 && q == 2;
                due("value of " + p + " " + q, x.value(8 + 8 * p + q), p == q || opened ? 0 : 10 * p + q);
            }
        }
    }

    private static void fortyLimitsOfOne() {
        sentence(9, "12: there are 40 others");
        Desk x = new Desk(256, 1);
        for (int q = 2; q <= 41; q++) {
            due("limit(1, " + q + ")", x.limit(1, q, q), 0);
        }
        due("the 41st of 1", x.limit(1, 42, 0), 12);
        due("the 41st, though the first of another", x.limit(255, 254, 0), 12);
        due("the 40th gets another", x.limit(1, 41, 0), 0);
        due("open in their midst", x.open(1, 20), 0);
        due("the first of another", x.limit(255, 254, 0), 0);
        due("the one that was opened", x.limit(1, 20, 0), 12);
        for (int q = 2; q <= 40; q++) {
            due("value towards " + q, x.value(256 + 256 + q), q == 20 ? 0 : q);
        }
    }

    private static void opens() {
        sentence(10, "There is no limit of p towards q any more (8 also if there was none).");
        Desk x = Desk.funded();
        due("there was none", x.open(1, 2), 8);
        due("limit(2, 1, 5)", x.limit(2, 1, 5), 0);
        due("the reverse is another", x.open(1, 2), 8);
        due("limit(1, 2, 0)", x.limit(1, 2, 0), 0);
        due("limit(3, 1, 7)", x.limit(3, 1, 7), 0);
        due("towards itself", x.open(1, 1), 8);
        due("a limit of 0 is one", x.open(1, 2), 0);
        due("isThere", x.isThere(room(1, 2)), false);
        due("value", x.value(room(1, 2)), 0);
        due("once more", x.open(1, 2), 8);
        due("the reverse stays", x.value(room(2, 1)), 5);
        due("another stays", x.value(room(3, 1)), 7);
        pay(x, 1, 2, MONEY, 100);
        due("the reverse", x.value(room(2, 1)), 105);
        due("the last that was set", x.open(3, 1), 0);
        due("the first that was set", x.open(2, 1), 0);
        due("there was one", x.open(2, 1), 8);
        for (int n = P * A; n < P * A + P * P; n++) {
            due("isThere(" + n + ")", x.isThere(n), false);
        }
    }

    // ---- 11 to 14: legs

    private static void legs() {
        sentence(11, "8 also if from is to");
        Desk x = Desk.funded();
        for (int p = 1; p < P; p++) {
            due("leg(" + p + ", " + p + ")", x.leg(p, p, MONEY, 1), 8);
        }
        due("drop()", x.drop(), 0);
        sentence(11, "12: there are 4");
        for (int i = 1; i <= 4; i++) {
            due("leg " + i, x.leg(1, 2, MONEY, i), 0);
            due("net", x.net(position(2, MONEY)), i * (i + 1) / 2);
        }
        due("leg 5", x.leg(1, 2, MONEY, 5), 12);
        due("leg 5 of another asset", x.leg(2, 3, BOND, 5), 12);
        due("net", x.net(position(2, MONEY)), 10);
        due("net", x.net(position(3, BOND)), 0);
        due("post()", x.post(), true);
        for (int i = 1; i <= 4; i++) {
            due("leg " + i + " after post", x.leg(1, 2, MONEY, i), 0);
        }
        due("leg 5 after post", x.leg(1, 2, MONEY, 5), 12);
        due("drop()", x.drop(), 4);
        due("leg 1 after drop", x.leg(1, 2, MONEY, 5), 0);
        due("a leg that can not hold is a leg", x.leg(5, 4, BOND, MOST), 0);
        due("drop()", x.drop(), 2);
    }

    private static void holds() {
        sentence(12, "Whether the legs hold (without legs: true).");
        Desk x = Desk.funded();
        due("without legs", x.holds(), true);
        due("leg", x.leg(1, 2, OTHER, 100), 0);
        due("all there is", x.holds(), true);
        due("asked again", x.holds(), true);
        due("leg", x.leg(1, 2, OTHER, 1), 0);
        due("1 more", x.holds(), false);
        due("asked again", x.holds(), false);
        due("nothing was done", x.value(position(1, OTHER)), 100);
        due("drop()", x.drop(), 2);
        due("without legs again", x.holds(), true);
        due("leg", x.leg(1, 2, OTHER, 100), 0);
        due("post()", x.post(), true);
        due("without legs again", x.holds(), true);
    }

    private static void posts() {
        sentence(13, "If the legs hold all of them are done, and there are no legs any more: true; else false.");
        Desk x = Desk.funded();
        due("without legs", x.post(), true);
        due("limit", x.limit(1, 2, 60), 0);
        due("limit", x.limit(2, 1, 0), 0);
        due("leg", x.leg(1, 2, MONEY, 61), 0);
        due("leg", x.leg(2, 3, BOND, 10), 0);
        due("leg", x.leg(3, 1, OTHER, 100), 0);
        due("short by 1 in a room", x.post(), false);
        due("none is done", x.value(position(1, MONEY)), 100);
        due("none is done", x.value(position(3, BOND)), 10);
        due("none is done", x.value(room(1, 2)), 60);
        due("legs stay", x.net(position(3, BOND)), 10);
        due("leg", x.leg(2, 1, MONEY, 1), 0);
        due("now they hold", x.post(), true);
        due("1", x.value(position(1, MONEY)), 40);
        due("2", x.value(position(2, MONEY)), 160);
        due("2 in the bond", x.value(position(2, BOND)), 0);
        due("3 in the bond", x.value(position(3, BOND)), 20);
        due("3 in the other", x.value(position(3, OTHER)), 0);
        due("1 in the other", x.value(position(1, OTHER)), 200);
        due("room 1 2", x.value(room(1, 2)), 0);
        due("room 2 1", x.value(room(2, 1)), 60);
        due("the bank", x.value(MONEY), -300);
        due("net", x.net(position(1, MONEY)), 0);
        due("no legs any more", x.drop(), 0);
        due("post() again does nothing", x.post(), true);
        due("1", x.value(position(1, MONEY)), 40);
        due("room 1 2", x.value(room(1, 2)), 0);
    }

    private static void drops() {
        sentence(14, "There are no legs any more: how many there were.");
        Desk x = Desk.funded();
        due("limit", x.limit(1, 2, 9), 0);
        for (int count = 0; count <= 4; count++) {
            for (int i = 0; i < count; i++) {
                due("leg", x.leg(1, 2, MONEY, 30), 0);
            }
            due("drop()", x.drop(), count);
            due("net", x.net(position(1, MONEY)), 0);
            due("net of the room", x.net(room(1, 2)), 0);
            due("holds()", x.holds(), true);
            due("drop() again", x.drop(), 0);
        }
        for (int i = 0; i < 5; i++) {
            due("leg", x.leg(1, 2, MONEY, 30), i < 4 ? 0 : 12);
        }
        due("the refused one is none", x.drop(), 4);
        due("nothing was done", x.value(position(1, MONEY)), 100);
        due("nothing was paid", x.value(room(1, 2)), 9);
    }

    // ---- 15 to 19: what is told

    private static Desk told() {
        Desk x = Desk.funded();
        x.pledge(1, BOND, 10);
        x.limit(P - 1, P - 2, 40);
        x.limit(1, 2, 50);
        x.leg(1, 2, MONEY, 7);
        x.leg(P - 1, P - 2, MONEY, 8);
        return x;
    }

    private static void nets() {
        sentence(15, "The net of the legs for a position or room; 0 for none that is there.");
        Desk x = told();
        for (int n : NO_NUMBERS) {
            due("net(" + n + ")", x.net(n), 0);
        }
        due("first of a participant that pays", x.net(position(1, MONEY)), -7);
        due("last that pays", x.net(position(P - 1, MONEY)), -8);
        due("last that gets", x.net(position(P - 2, MONEY)), 8);
        due("room", x.net(room(1, 2)), -7);
        due("last room", x.net(room(P - 1, P - 2)), -8);
        due("room that is not there", x.net(room(2, 1)), 0);
        due("room towards oneself", x.net(room(1, 1)), 0);
        due("room of the bank", x.net(room(0, 1)), 0);
        due("asset that was not made", x.net(position(1, NOT_MADE)), 0);
    }

    private static void values() {
        sentence(16, "The value of a position, or of a room; 0 for none that is there.");
        Desk x = told();
        for (int n : NO_NUMBERS) {
            due("value(" + n + ")", x.value(n), 0);
        }
        due("position 0", x.value(0), -30);
        due("last position that is there", x.value(position(P - 1, SHARE)), 0);
        due("give", x.give(P - 1, SHARE, 6), 0);
        due("last position that is there", x.value(P * A - 2), 6);
        due("last position, not made", x.value(P * A - 1), 0);
        due("the number behind it", x.value(P * A), 0);
        due("room", x.value(room(1, 2)), 50);
        due("room that is not there", x.value(room(2, 1)), 0);
        due("last room", x.value(room(P - 1, P - 2)), 40);
        due("the number behind it", x.value(P * A + P * P - 1), 0);
        due("currency()", x.currency(), NOT_MADE);
        due("give", x.give(P - 1, NOT_MADE, 3), 0);
        due("last position, made now", x.value(P * A - 1), 3);
    }

    private static void floors() {
        sentence(17, "Its floor; 0 for none that is there.");
        Desk x = told();
        for (int n : NO_NUMBERS) {
            due("floor(" + n + ")", x.floor(n), 0);
        }
        due("position 0", x.floor(0), Long.MIN_VALUE);
        due("bank's last that was made", x.floor(SHARE), Long.MIN_VALUE);
        due("bank's not made", x.floor(NOT_MADE), 0);
        due("first of 1", x.floor(A), 10);
        due("money of 1", x.floor(A + MONEY), -1_200);
        due("not made of 1", x.floor(A + NOT_MADE), 0);
        due("room", x.floor(room(1, 2)), 0);
        due("room that is not there", x.floor(room(2, 1)), 0);
        due("currency()", x.currency(), NOT_MADE);
        due("bank's made now", x.floor(NOT_MADE), Long.MIN_VALUE);
    }

    private static void areThere() {
        sentence(18, "Whether there is such a position, of an asset that was made, or room.");
        Desk x = told();
        for (int n : NO_NUMBERS) {
            due("isThere(" + n + ")", x.isThere(n), false);
        }
        for (int n = -2 * A; n < P * A + P * P + 2 * P; n++) {
            boolean position = n >= 0 && n < P * A && n % A != NOT_MADE;
            boolean room = n == room(1, 2) || n == room(P - 1, P - 2);
            due("isThere(" + n + ")", x.isThere(n), position || room);
        }
        due("currency()", x.currency(), NOT_MADE);
        due("the bank's", x.isThere(NOT_MADE), true);
        due("the last position", x.isThere(P * A - 1), true);
        due("the number behind it", x.isThere(P * A), false);
    }

    private static void credits() {
        sentence(19, "A participant's credit; 0 for no such one, or the bank.");
        Desk x = Desk.usual();
        for (int p = 1; p < P; p++) {
            due("give", x.give(p, BOND, p), 0);
            due("credit of nothing", x.credit(p), 0);
            due("pledge", x.pledge(p, BOND, p), 0);
        }
        for (int p = 1; p < P; p++) {
            due("credit(" + p + ")", x.credit(p), 120 * p);
        }
        for (int p : new int[] {Integer.MIN_VALUE, -P, -1, 0, P, P + 1, 256, Integer.MAX_VALUE}) {
            due("credit(" + p + ")", x.credit(p), 0);
        }
    }

    // ---- 20: day

    private static void days() {
        sentence(20, "A day begins: all that was paid is 0 (legs stay).");
        Desk x = Desk.funded();
        due("limit", x.limit(1, 2, 50), 0);
        due("limit", x.limit(2, 1, 60), 0);
        pay(x, 1, 2, MONEY, 50);
        pay(x, 3, 1, MONEY, 20);
        due("leg", x.leg(1, 2, MONEY, 50), 0);
        due("leg", x.leg(3, 1, MONEY, 1), 0);
        due("no room", x.holds(), false);
        due("what was paid without a limit", x.limit(3, 1, 19), 9);
        x.day();
        due("room 1 2", x.value(room(1, 2)), 50);
        due("room 2 1", x.value(room(2, 1)), 60);
        due("what was paid without a limit", x.limit(3, 1, 0), 0);
        due("room 3 1", x.value(room(3, 1)), 0);
        due("limit", x.limit(3, 1, 1), 0);
        due("legs stay", x.net(position(1, MONEY)), -49);
        due("legs stay", x.net(room(1, 2)), -50);
        due("positions stay", x.value(position(1, MONEY)), 70);
        due("there is room", x.holds(), true);
        due("post()", x.post(), true);
        due("what is paid now counts", x.value(room(1, 2)), 0);
        due("what is paid now counts", x.value(room(2, 1)), 110);
        due("what is paid now counts", x.value(room(3, 1)), 0);
        x.day();
        x.day();
        due("room 1 2", x.value(room(1, 2)), 50);
        due("room 2 1", x.value(room(2, 1)), 60);
        due("legs are none", x.drop(), 0);
    }

    private static void dayKeepsAllElse() {
        sentence(20, "A day begins: all that was paid is 0 (legs stay).");
        Desk x = told();
        x.day();
        due("legs", x.net(position(1, MONEY)), -7);
        due("credit", x.credit(1), 1_200);
        due("pledged", x.floor(position(1, BOND)), 10);
        due("floor", x.floor(position(1, MONEY)), -1_200);
        due("limit", x.value(room(1, 2)), 50);
        due("asset", x.isThere(position(1, SHARE)), true);
        due("drop()", x.drop(), 2);
        Desk empty = new Desk(2, 1);
        empty.day();
        due("a day of nothing", empty.isThere(0), false);
    }

    private static void promisesOfState() {
        sizes();
        isEmpty();
        currencies();
        securities();
        prices();
        gives();
        backs();
        pledges();
        frees();
        limits();
        fullOfLimits();
        fortyLimitsOfOne();
        opens();
    }

    private static void promisesOfLegs() {
        legs();
        holds();
        posts();
        drops();
        nets();
        values();
        floors();
        areThere();
        credits();
        days();
        dayKeepsAllElse();
    }

    public static void main(String[] args) {
        promisesOfState();
        promisesOfLegs();
        CHECK.end();
    }
}
