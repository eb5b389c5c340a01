/** The boundary cases of the document's 'What it is' and 'Terms', sentence by sentence, both sides of each edge. */
public final class TermsSentences {
    private static final String TERMS = "Terms";
    private static final long MOST = Desk.MOST;
    private static final long TOP = Desk.TOP;
    private static final int P = Desk.P;
    private static final int A = Desk.A;
    private static final int BOND = Desk.BOND;
    private static final int MONEY = Desk.MONEY;
    private static final int OTHER = Desk.OTHER;
    private static final int SHARE = Desk.SHARE;
    private static final int NOT_MADE = Desk.NOT_MADE;
    private static final int[] NO_CLIENTS = {Integer.MIN_VALUE, -P, -1, 0, P, P + 1, 2 * P, Integer.MAX_VALUE};
    private static final int[] NO_ASSETS = {Integer.MIN_VALUE, -A, -1, NOT_MADE, A, A + 1, Integer.MAX_VALUE};
    private static final long[] NO_AMOUNTS = {Long.MIN_VALUE, -MOST, -1, 0, MOST + 1, MOST + 2, Long.MAX_VALUE};

    private static final Check CHECK = new Check();

    private static void sentence(String words) {
        CHECK.sentence(TERMS, words);
    }

    private static void due(String call, long got, long want) {
        CHECK.due(call, got, want);
    }

    private static void due(String call, boolean got, boolean want) {
        CHECK.due(call, got, want);
    }

    private static int position(int p, int a) {
        return Desk.position(p, a);
    }

    private static int room(int p, int q) {
        return Desk.room(p, q);
    }

    private static void pay(Desk x, int from, int to, int a, long v) {
        due("leg(" + from + ", " + to + ", " + a + ", " + v + ")", x.leg(from, to, a, v), 0);
        due("post()", x.post(), true);
    }

    // ---- What it is

    private static void lastCall() {
        CHECK.sentence("What it is", "An object is used for at most 512 calls after it has been made");
        Desk x = new Desk(2, 1);
        due("currency()", x.currency(), 0);
        for (int i = 1; i <= 510; i++) {
            due("give", x.give(1, 0, MOST), 0);
        }
        due("value(1), the 512th call", x.value(1), 510 * MOST);
        due("calls", x.calls(), 512);
    }

    /** 408 pairs are all that can pay one another in 511 calls: the 512th asks each of them whether it is remembered. */
    private static void mostPairs() {
        CHECK.sentence("What it is", "An object is used for at most 512 calls after it has been made");
        for (int asked = 0; asked < 408; asked++) {
            Desk x = new Desk(256, 1);
            due("currency()", x.currency(), 0);
            for (int ring = 0; ring < 102; ring++) {
                payInRing(x, ring);
            }
            int from = memberOfRing(asked / 4, asked % 4);
            int to = memberOfRing(asked / 4, (asked + 1) % 4);
            due("limit of pair " + asked + " below what it paid", x.limit(from, to, 6), 9);
            due("calls", x.calls(), 512);
        }
    }

    /** Rings of four without a pair in common: 60 of neighbours, then such as leap over others. */
    private static int memberOfRing(int ring, int i) {
        return ring < 60 ? 1 + 4 * ring + i : 1 + 4 * (ring - 60) + 5 * i;
    }

    private static void payInRing(Desk x, int ring) {
        for (int i = 0; i < 4; i++) {
            due("leg", x.leg(memberOfRing(ring, i), memberOfRing(ring, (i + 1) % 4), 0, 7), 0);
        }
        due("post() of a ring", x.post(), true);
    }

    // ---- participants, assets

    private static void participants() {
        sentence("PARTICIPANTS are 0 .. P - 1, 0 is the BANK");
        for (int p : NO_CLIENTS) {
            isNone(p);
        }
        isOne(1, 2);
        isOne(P - 1, 1);
    }

    private static void isNone(int p) {
        Desk x = Desk.funded();
        due("give(" + p + ")", x.give(p, MONEY, 1), 8);
        due("back(" + p + ")", x.back(p, MONEY, 1), 8);
        due("pledge(" + p + ")", x.pledge(p, BOND, 1), 8);
        due("free(" + p + ")", x.free(p, BOND, 1), 8);
        due("limit(" + p + ", 1)", x.limit(p, 1, 1), 8);
        due("limit(1, " + p + ")", x.limit(1, p, 1), 8);
        due("open(" + p + ", 1)", x.open(p, 1), 8);
        due("open(1, " + p + ")", x.open(1, p), 8);
        due("leg(" + p + ", 1)", x.leg(p, 1, MONEY, 1), 8);
        due("leg(1, " + p + ")", x.leg(1, p, MONEY, 1), 8);
        due("credit(" + p + ")", x.credit(p), 0);
    }

    private static void isOne(int p, int other) {
        Desk x = Desk.funded();
        due("give(" + p + ")", x.give(p, BOND, 3), 0);
        due("pledge(" + p + ")", x.pledge(p, BOND, 3), 0);
        due("credit(" + p + ")", x.credit(p), 360);
        due("free(" + p + ")", x.free(p, BOND, 1), 0);
        due("back(" + p + ")", x.back(p, BOND, 1), 0);
        due("limit(" + p + ", " + other + ")", x.limit(p, other, 1), 0);
        due("limit(" + other + ", " + p + ")", x.limit(other, p, 1), 0);
        due("open(" + p + ", " + other + ")", x.open(p, other), 0);
        due("open(" + other + ", " + p + ")", x.open(other, p), 0);
        due("leg(" + p + ", " + other + ")", x.leg(p, other, MONEY, 1), 0);
        due("leg(" + other + ", " + p + ")", x.leg(other, p, MONEY, 1), 0);
    }

    /** Numbers that are out of range, but whose position or room would be that of others, mean none. */
    private static void noOthersNumbers() {
        sentence("no such participant, the bank, no such asset");
        Desk x = Desk.funded();
        due("limit(2, 3, 9)", x.limit(2, 3, 9), 0);
        due("open(1, P + 3)", x.open(1, P + 3), 8);
        due("open(3, 3 - P)", x.open(3, 3 - P), 8);
        due("limit(1, P + 3, 5)", x.limit(1, P + 3, 5), 8);
        due("limit(3, 3 - P, 5)", x.limit(3, 3 - P, 5), 8);
        due("value of room 2 3", x.value(room(2, 3)), 9);
        due("give(1, A + 1, 5)", x.give(1, A + MONEY, 5), 8);
        due("give(3, 1 - A, 5)", x.give(3, MONEY - A, 5), 8);
        due("value of position 2 in the money", x.value(position(2, MONEY)), 100);
        due("leg(1, 3, A + 1, 5)", x.leg(1, 3, A + MONEY, 5), 8);
        due("leg(1, 3, 1 - A, 5)", x.leg(1, 3, MONEY - A, 5), 8);
        due("drop()", x.drop(), 0);
    }

    private static void assets() {
        sentence("ASSETS are numbered from 0 on as they are made, A at most");
        Desk x = new Desk(P, 4);
        due("currency()", x.currency(), 0);
        due("security(5, 5)", x.security(5, 5), 1);
        due("security(5, 100) is none", x.security(5, 100), -1);
        due("security(5, 5)", x.security(5, 5), 2);
        due("currency()", x.currency(), 3);
        due("currency()", x.currency(), -1);
        due("security(5, 5)", x.security(5, 5), -1);
        due("give of the last", x.give(1, 3, 1), 0);
        due("give of one more", x.give(1, 4, 1), 8);
        for (int a : NO_ASSETS) {
            isNoAsset(a);
        }
    }

    private static void isNoAsset(int a) {
        Desk x = Desk.funded();
        due("price(" + a + ")", x.price(a, 1, 1), 8);
        due("give(" + a + ")", x.give(1, a, 1), 8);
        due("back(" + a + ")", x.back(1, a, 1), 8);
        due("pledge(" + a + ")", x.pledge(1, a, 1), 8);
        due("free(" + a + ")", x.free(1, a, 1), 8);
        due("leg(" + a + ")", x.leg(1, 2, a, 1), 8);
        due("drop()", x.drop(), 0);
    }

    private static void lastAsset() {
        sentence("no such asset");
        Desk x = Desk.funded();
        due("price of the last that was made", x.price(SHARE, 1, 1), 0);
        due("give", x.give(1, SHARE, 1), 0);
        due("back", x.back(1, SHARE, 1), 0);
        due("pledge", x.pledge(1, SHARE, 1), 0);
        due("free", x.free(1, SHARE, 1), 0);
        due("leg", x.leg(1, 2, SHARE, 1), 0);
        due("give before it is made", x.give(1, NOT_MADE, 1), 8);
        due("currency()", x.currency(), NOT_MADE);
        due("give when it is made", x.give(1, NOT_MADE, 1), 0);
    }

    private static void sorts() {
        sentence("or not of the sort that is needed");
        Desk x = Desk.funded();
        for (int a : new int[] {MONEY, OTHER}) {
            due("price of currency " + a, x.price(a, 1, 1), 8);
            due("pledge of currency " + a, x.pledge(1, a, 1), 8);
            due("free of currency " + a, x.free(1, a, 1), 8);
        }
        for (int a : new int[] {BOND, SHARE}) {
            due("price of security " + a, x.price(a, 1, 1), 0);
            due("pledge of security " + a, x.pledge(1, a, 1), 0);
            due("free of security " + a, x.free(1, a, 1), 0);
        }
        for (int a = 0; a < NOT_MADE; a++) {
            due("give of any sort, " + a, x.give(1, a, 1), 0);
            due("back of any sort, " + a, x.back(1, a, 1), 0);
            due("leg of any sort, " + a, x.leg(1, 2, a, 1), 0);
        }
    }

    private static void prices() {
        sentence("SECURITIES with a PRICE (0 .. 10 ^ 15 - 1)");
        for (long price : new long[] {Long.MIN_VALUE, -MOST, -1, MOST + 1, Long.MAX_VALUE}) {
            Desk x = Desk.funded();
            due("price(0, " + price + ", 0)", x.price(BOND, price, 0), 8);
            due("security(" + price + ", 0)", x.security(price, 0), -1);
            due("isThere", x.isThere(position(1, NOT_MADE)), false);
        }
        for (long price : new long[] {0, 1, MOST - 1, MOST}) {
            Desk x = Desk.funded();
            due("pledge", x.pledge(1, BOND, 1), 0);
            due("price(0, " + price + ", 0)", x.price(BOND, price, 0), 0);
            due("credit", x.credit(1), price);
            due("security(" + price + ", 0)", x.security(price, 0), NOT_MADE);
            due("give", x.give(2, NOT_MADE, 1), 0);
            due("pledge", x.pledge(2, NOT_MADE, 1), 0);
            due("credit", x.credit(2), price);
        }
    }

    private static void haircuts() {
        sentence("and a HAIRCUT (0 .. 99)");
        for (int haircut : new int[] {Integer.MIN_VALUE, -100, -1, 100, 101, Integer.MAX_VALUE}) {
            Desk x = Desk.funded();
            due("price(0, 1, " + haircut + ")", x.price(BOND, 1, haircut), 8);
            due("security(1, " + haircut + ")", x.security(1, haircut), -1);
            due("isThere", x.isThere(position(1, NOT_MADE)), false);
        }
        for (int haircut : new int[] {0, 1, 98, 99}) {
            Desk x = Desk.funded();
            due("pledge", x.pledge(1, BOND, 10), 0);
            due("price(0, 10, " + haircut + ")", x.price(BOND, 10, haircut), 0);
            due("credit", x.credit(1), 100 - haircut);
            due("security(10, " + haircut + ")", x.security(10, haircut), NOT_MADE);
            due("give", x.give(2, NOT_MADE, 10), 0);
            due("pledge", x.pledge(2, NOT_MADE, 10), 0);
            due("credit", x.credit(2), 100 - haircut);
        }
    }

    private static void amounts() {
        sentence("an amount that is not 1 .. 10 ^ 15 - 1");
        for (long v : NO_AMOUNTS) {
            isNoAmount(v);
        }
        isAmount(1);
        isAmount(2);
        isAmount(1L << 32);
        isAmount(MOST - 1);
        isAmount(MOST);
    }

    private static void isNoAmount(long v) {
        Desk x = Desk.funded();
        due("price", x.price(BOND, 1, 0), 0);
        for (int i = 0; i < 2; i++) {
            due("give", x.give(1, BOND, MOST), 0);
            due("pledge", x.pledge(1, BOND, MOST), 0);
        }
        due("give " + v, x.give(1, BOND, v), 8);
        due("back " + v, x.back(1, BOND, v), 8);
        due("pledge " + v, x.pledge(1, BOND, v), 8);
        due("free " + v, x.free(1, BOND, v), 8);
        due("leg " + v, x.leg(1, 2, BOND, v), 8);
        due("value", x.value(position(1, BOND)), 2 * MOST + 10);
        due("floor", x.floor(position(1, BOND)), 2 * MOST);
        due("drop()", x.drop(), 0);
    }

    private static void isAmount(long v) {
        Desk x = Desk.usual();
        due("price", x.price(BOND, 1, 0), 0);
        due("give " + v, x.give(1, BOND, v), 0);
        due("value", x.value(position(1, BOND)), v);
        due("pledge " + v, x.pledge(1, BOND, v), 0);
        due("floor", x.floor(position(1, BOND)), v);
        due("free " + v, x.free(1, BOND, v), 0);
        due("floor", x.floor(position(1, BOND)), 0);
        due("leg " + v, x.leg(1, 2, BOND, v), 0);
        due("net", x.net(position(1, BOND)), -v);
        due("post()", x.post(), true);
        due("back " + v, x.back(2, BOND, v), 0);
        due("value", x.value(position(2, BOND)), 0);
        due("the bank", x.value(BOND), 0);
    }

    // ---- the money

    private static void money() {
        sentence("The MONEY is the currency that was made first.");
        Desk x = Desk.funded();
        due("pledge", x.pledge(1, BOND, 1), 0);
        due("floor in the first currency", x.floor(position(1, MONEY)), -120);
        due("floor in the second currency", x.floor(position(1, OTHER)), 0);
        due("floor in the security that was made before", x.floor(position(1, BOND)), 1);
        due("a third currency", x.currency(), NOT_MADE);
        due("floor in the third currency", x.floor(position(1, NOT_MADE)), 0);
        due("floor in the first currency", x.floor(position(1, MONEY)), -120);
    }

    private static void noMoney() {
        sentence("The MONEY is the currency that was made first.");
        Desk x = new Desk(P, 1);
        due("security", x.security(10, 0), 0);
        due("no place for a currency, so no money", x.currency(), -1);
        due("give", x.give(1, 0, 9), 0);
        due("pledge", x.pledge(1, 0, 4), 0);
        due("credit", x.credit(1), 40);
        due("price", x.price(0, 5, 0), 0);
        due("free", x.free(1, 0, 1), 0);
        due("credit", x.credit(1), 15);
        due("floor", x.floor(1), 3);
        due("limit", x.limit(1, 2, 0), 0);
        due("leg", x.leg(1, 2, 0, 6), 0);
        due("net of the room", x.net(P + P + 2), 0);
        due("a leg that is no payment", x.post(), true);
        due("room", x.value(P + P + 2), 0);
    }

    private static void lateMoney() {
        sentence("The MONEY is the currency that was made first.");
        Desk x = new Desk(P, 2);
        due("security", x.security(10, 0), 0);
        due("give", x.give(1, 0, 9), 0);
        due("pledge", x.pledge(1, 0, 4), 0);
        due("limit", x.limit(1, 2, 40), 0);
        due("leg", x.leg(1, 2, 0, 5), 0);
        due("currency", x.currency(), 1);
        due("floor of what was earned before it was made", x.floor(2 + 1), -40);
        due("leg", x.leg(1, 2, 1, 40), 0);
        due("the leg of before is no payment", x.net(2 * P + P + 2), -40);
        due("post()", x.post(), true);
        due("value", x.value(2 + 1), -40);
        due("room", x.value(2 * P + P + 2), 0);
    }

    // ---- positions and rooms

    private static void positions() {
        sentence("Each participant has a POSITION in each asset, at first 0, with the number p * A + a");
        Desk x = Desk.usual();
        for (int n = 0; n < P * A; n++) {
            boolean made = n % A != NOT_MADE;
            due("isThere(" + n + ")", x.isThere(n), made);
            due("value(" + n + ")", x.value(n), 0);
        }
        Desk y = Desk.usual();
        for (int p = 1; p < P; p++) {
            for (int a = 0; a < NOT_MADE; a++) {
                due("give", y.give(p, a, 10 * p + a + 1), 0);
            }
        }
        for (int p = 1; p < P; p++) {
            for (int a = 0; a < NOT_MADE; a++) {
                due("value of " + p + " in " + a, y.value(p * A + a), 10 * p + a + 1);
            }
            due("value of what was not made", y.value(p * A + NOT_MADE), 0);
        }
        for (int a = 0; a < NOT_MADE; a++) {
            due("value of the bank in " + a, y.value(a), -150 - 5 * (a + 1));
        }
    }

    private static void rooms() {
        sentence("each p has a ROOM towards each q other than p (but the bank, neither as p nor as q), "
                + "which has the number P * A + p * P + q");
        Desk x = Desk.usual();
        for (int p = 0; p < P; p++) {
            for (int q = 0; q < P; q++) {
                boolean can = p > 0 && q > 0 && p != q;
                due("limit(" + p + ", " + q + ")", x.limit(p, q, 100 + 10 * p + q), can ? 0 : 8);
            }
        }
        for (int p = 0; p < P; p++) {
            for (int q = 0; q < P; q++) {
                boolean can = p > 0 && q > 0 && p != q;
                int n = P * A + p * P + q;
                due("isThere(" + n + ")", x.isThere(n), can);
                due("value(" + n + ")", x.value(n), can ? 100 + 10 * p + q : 0);
            }
        }
        due("before all rooms and positions", x.isThere(-1), false);
        due("behind all rooms", x.isThere(P * A + P * P), false);
    }

    private static void farRooms() {
        sentence("which has the number P * A + p * P + q");
        int[][] sizes = {{3, 64}, {256, 1}, {256, 64}, {8, 6}};
        for (int[] size : sizes) {
            int p = size[0] - 1;
            int q = size[0] - 2;
            Desk x = new Desk(size[0], size[1]);
            due("limit", x.limit(p, q, 12), 0);
            due("value of the last room", x.value(size[0] * size[1] + p * size[0] + q), 12);
            due("isThere next to it", x.isThere(size[0] * size[1] + p * size[0] + q + 1), false);
            due("isThere before it", x.isThere(size[0] * size[1] + p * size[0] + q - 1), false);
            due("the reverse", x.limit(q, p, 13), 0);
            due("value of it", x.value(size[0] * size[1] + q * size[0] + p), 13);
        }
        Desk least = new Desk(2, 64);
        due("with one participant beside the bank there is no room", least.limit(1, 1, 5), 8);
    }

    private static void roomIsThere() {
        sentence("is there as long as a LIMIT is set by p towards q");
        Desk x = Desk.funded();
        due("before", x.isThere(room(1, 2)), false);
        due("limit(1, 2, 0)", x.limit(1, 2, 0), 0);
        due("a limit of 0 is one", x.isThere(room(1, 2)), true);
        due("not towards 1", x.isThere(room(2, 1)), false);
        x.day();
        due("the next day", x.isThere(room(1, 2)), true);
        due("limit(1, 2, 7)", x.limit(1, 2, 7), 0);
        due("with another limit", x.isThere(room(1, 2)), true);
        pay(x, 1, 2, MONEY, 7);
        due("when it is used up", x.isThere(room(1, 2)), true);
        due("open(1, 2)", x.open(1, 2), 0);
        due("after", x.isThere(room(1, 2)), false);
        due("limit(1, 2, 7)", x.limit(1, 2, 7), 0);
        due("again", x.isThere(room(1, 2)), true);
    }

    private static void roomValue() {
        sentence("The VALUE of a room that is there is the limit, less what p paid q in the money since the day began, "
                + "and as much more as q paid p.");
        Desk x = Desk.funded();
        pay(x, 1, 2, MONEY, 9);
        due("what was paid before the limit was set counts", x.limit(1, 2, 50), 0);
        due("room 1 2", x.value(room(1, 2)), 41);
        pay(x, 1, 2, MONEY, 11);
        due("room 1 2", x.value(room(1, 2)), 30);
        pay(x, 2, 1, MONEY, 35);
        due("room 1 2 is more than the limit", x.value(room(1, 2)), 65);
        due("limit(2, 1, 20)", x.limit(2, 1, 20), 0);
        due("room 2 1", x.value(room(2, 1)), 5);
        pay(x, 1, 3, MONEY, 5);
        pay(x, 3, 2, MONEY, 5);
        due("paid to others", x.value(room(1, 2)), 65);
        pay(x, 1, 2, OTHER, 5);
        pay(x, 1, 2, BOND, 5);
        due("paid in what is not the money", x.value(room(1, 2)), 65);
        due("give", x.give(1, MONEY, 3), 0);
        due("back", x.back(2, MONEY, 3), 0);
        due("the bank is no other", x.value(room(1, 2)), 65);
        due("open(1, 2)", x.open(1, 2), 0);
        pay(x, 2, 1, MONEY, 2);
        due("limit(1, 2, 1)", x.limit(1, 2, 1), 0);
        due("paid while no limit was set", x.value(room(1, 2)), 18);
        x.day();
        due("the day began", x.value(room(1, 2)), 1);
        due("the day began", x.value(room(2, 1)), 20);
    }

    private static void greatRoomValue() {
        sentence("The VALUE of a room that is there is the limit, less what p paid q in the money since the day began, "
                + "and as much more as q paid p.");
        Desk x = Desk.usual();
        due("limit(1, 2, most)", x.limit(1, 2, MOST), 0);
        for (int i = 0; i < 20; i++) {
            due("give", x.give(2, MONEY, MOST), 0);
            pay(x, 2, 1, MONEY, MOST);
        }
        due("room", x.value(room(1, 2)), 21 * MOST);
        due("more than any limit was paid", x.limit(2, 1, MOST), 9);
        pay(x, 1, 2, MONEY, MOST);
        due("room", x.value(room(1, 2)), 20 * MOST);
        for (int i = 0; i < 18; i++) {
            pay(x, 1, 2, MONEY, MOST);
        }
        due("now it is just the highest limit", x.limit(2, 1, MOST - 1), 9);
        due("now it is just the highest limit", x.limit(2, 1, MOST), 0);
        due("room", x.value(room(2, 1)), 0);
    }

    // ---- floors and credit

    private static void floors() {
        sentence("FLOORS: positions of the bank have none (told as the least long).");
        Desk x = Desk.funded();
        for (int a = 0; a < NOT_MADE; a++) {
            due("floor of the bank in " + a, x.floor(a), Long.MIN_VALUE);
        }
        due("floor of the bank in what was not made", x.floor(NOT_MADE), 0);
        due("give makes it less and less", x.give(1, MONEY, MOST), 0);
        due("the bank", x.value(MONEY), -300 - MOST);
        sentence("A participant's position in a security has the amount PLEDGED of it, in the money -1 times its CREDIT, "
                + "in another currency 0; a room 0.");
        due("pledge", x.pledge(1, BOND, 10), 0);
        due("pledge", x.pledge(1, SHARE, 3), 0);
        due("pledge", x.pledge(2, SHARE, 1), 0);
        due("limit", x.limit(1, 2, 50), 0);
        long[][] want = {{10, -1214, 0, 3, 0}, {0, -4, 0, 1, 0}, {0, 0, 0, 0, 0}};
        for (int p = 1; p <= 3; p++) {
            for (int a = 0; a < A; a++) {
                due("floor of " + p + " in " + a, x.floor(position(p, a)), want[p - 1][a]);
            }
        }
        due("floor of a room", x.floor(room(1, 2)), 0);
    }

    private static void creditIsRounded() {
        sentence("The credit is, for each security, pledged * price * (100 - haircut) / 100, rounded down, summed up.");
        Desk x = Desk.funded();
        due("nothing pledged", x.credit(1), 0);
        due("price 1, haircut 1", x.price(SHARE, 1, 1), 0);
        due("price 1, haircut 50", x.price(BOND, 1, 50), 0);
        due("pledge", x.pledge(1, SHARE, 1), 0);
        due("0.99", x.credit(1), 0);
        due("pledge", x.pledge(1, BOND, 1), 0);
        due("0.99 and 0.50, each rounded down", x.credit(1), 0);
        due("pledge", x.pledge(1, BOND, 1), 0);
        due("0.99 and 1", x.credit(1), 1);
        due("pledge", x.pledge(1, SHARE, 1), 0);
        due("1.98 and 1: the security is rounded, not each piece", x.credit(1), 2);
        due("pledge", x.pledge(2, SHARE, 3), 0);
        due("2.97 of another", x.credit(2), 2);
        due("haircut 99", x.price(SHARE, 33, 99), 0);
        due("0.66 and 1", x.credit(1), 1);
        due("0.99", x.credit(2), 0);
        due("haircut 99", x.price(SHARE, 34, 99), 0);
        due("1.02", x.credit(2), 1);
        due("price 0", x.price(SHARE, 0, 0), 0);
        due("nothing", x.credit(2), 0);
        due("floor stays", x.floor(position(2, SHARE)), 3);
    }

    /** The product by 100 does not fit a long, though the credit does. */
    private static void creditIsGreat() {
        sentence("The credit is, for each security, pledged * price * (100 - haircut) / 100, rounded down, summed up.");
        greatCredit(MOST, 4_000, 0, 3_999_999_999_999_996_000L);
        greatCredit(MOST, 4_001, 1, 3_960_989_999_999_996_039L);
        greatCredit(MOST, 399_999, 99, 3_999_989_999_999_996_000L);
        greatCredit(4_000, MOST, 0, 3_999_999_999_999_996_000L);
        greatCredit(4_040, MOST, 1, 3_999_599_999_999_996_000L);
        greatCredit(4_001, MOST, 1, 3_960_989_999_999_996_039L);
        greatCredit(2_000_000_000, 2_000_000_000, 0, TOP);
        greatCredit(2_000_000_001, 2_000_000_001, 1, 3_960_000_003_960_000_000L);
        greatCredit(2_000_000_001, 2_000_000_000, 50, 2_000_000_001_000_000_000L);
        greatCredit(1L << 31, 1L << 30, 0, 1L << 61);
        greatCredit(457_851, 873_646_666_710_349L, 99, TOP - 1);
        greatCredit(441_870_304_437_593L, 905_243, 99, TOP);
        greatCredit(905_243, 441_870_304_437_593L, 99, TOP);
    }

    private static void greatCredit(long pledged, long price, int haircut, long want) {
        Desk x = Desk.usual();
        String told = pledged + " * " + price + " less " + haircut + "%";
        due("give", x.give(1, BOND, pledged), 0);
        due("price", x.price(BOND, price, haircut), 0);
        due("pledge", x.pledge(1, BOND, pledged), 0);
        due(told, x.credit(1), want);
        due("floor of " + told, x.floor(position(1, MONEY)), -want);
        due("price 0", x.price(BOND, 0, 0), 0);
        due("credit", x.credit(1), 0);
        due("price again", x.price(BOND, price, haircut), 0);
        due(told + " by price", x.credit(1), want);
        due("free", x.free(1, BOND, pledged), 0);
        due("credit", x.credit(1), 0);
    }

    // ---- faults

    private static void belowFloor() {
        sentence("9 a position or room would be below its floor");
        Desk x = Desk.funded();
        due("pledge, 1 too much", x.pledge(1, BOND, 11), 9);
        due("pledge", x.pledge(1, BOND, 8), 0);
        due("pledge, 1 too much", x.pledge(1, BOND, 3), 9);
        due("back of the pledged, 1 too much", x.back(1, BOND, 3), 9);
        due("back of what is not pledged", x.back(1, BOND, 2), 0);
        due("back of another currency, 1 too much", x.back(1, OTHER, 101), 9);
        due("back of another currency", x.back(1, OTHER, 100), 0);
        due("back of the money, 1 too much", x.back(1, MONEY, 1_061), 9);
        due("back of the money", x.back(1, MONEY, 1_060), 0);
        due("free", x.free(1, BOND, 1), 9);
        due("price", x.price(BOND, 149, 20), 9);
        due("haircut", x.price(BOND, 150, 21), 9);
        due("as it is", x.price(BOND, 150, 20), 0);
        due("give", x.give(1, MONEY, 120), 0);
        due("free, 1 too much", x.free(1, BOND, 2), 9);
        due("free", x.free(1, BOND, 1), 0);
        due("give", x.give(1, MONEY, 7), 0);
        due("price, 1 too low", x.price(BOND, 118, 0), 9);
        due("price", x.price(BOND, 119, 0), 0);
        due("value is the floor", x.value(position(1, MONEY)) - x.floor(position(1, MONEY)), 0);
    }

    private static void roomBelowFloor() {
        sentence("9 a position or room would be below its floor");
        Desk x = Desk.funded();
        pay(x, 1, 2, MONEY, 30);
        due("limit, 1 too low", x.limit(1, 2, 29), 9);
        due("limit of 0", x.limit(1, 2, 0), 9);
        due("limit", x.limit(1, 2, 30), 0);
        due("the other way", x.limit(2, 1, 0), 0);
        pay(x, 2, 1, MONEY, 10);
        due("limit, 1 too low", x.limit(1, 2, 19), 9);
        due("limit", x.limit(1, 2, 20), 0);
        pay(x, 2, 1, MONEY, 20);
        due("limit of 0, nothing is paid now", x.limit(1, 2, 0), 0);
        due("room", x.value(room(1, 2)), 0);
        due("leg", x.leg(1, 2, MONEY, 5), 0);
        due("legs are not paid yet", x.limit(1, 2, 4), 0);
    }

    /** The last participant's floor counts as the first one's does. */
    private static void priceBelowFloorOfOne() {
        sentence("9 a position or room would be below its floor");
        for (int p = 1; p < P; p++) {
            Desk x = Desk.usual();
            for (int q = 1; q < P; q++) {
                due("give", x.give(q, BOND, 10), 0);
                due("pledge", x.pledge(q, BOND, 10), 0);
            }
            due("back", x.back(p, MONEY, 700), 0);
            due("price, 1 too low for " + p, x.price(BOND, 69, 0), 9);
            due("price", x.price(BOND, 70, 0), 0);
            due("credit", x.credit(p), 700);
        }
    }

    /** 512 calls take the bank to some -5.1 * 10 ^ 17 at most, so none of them may be refused. */
    private static void bankFarBelow() {
        sentence("10 the bank's position would be below -4 * 10 ^ 18");
        Desk x = new Desk(2, 1);
        due("currency()", x.currency(), 0);
        for (int i = 1; i <= 510; i++) {
            due("give, the time " + i, x.give(1, 0, MOST), 0);
        }
        due("the bank", x.value(0), -510 * MOST);
    }

    private static void allCredits() {
        sentence("or all credits together more than 4 * 10 ^ 18");
        Desk x = Desk.usual();
        due("price", x.price(BOND, 1_000_000, 0), 0);
        due("price", x.price(SHARE, 1, 0), 0);
        for (int p = 1; p <= 2; p++) {
            due("give", x.give(p, BOND, MOST), 0);
            due("give", x.give(p, SHARE, MOST), 0);
        }
        due("a million too much", x.pledge(1, BOND, 4_000_000_000_001L), 10);
        due("4 * 10 ^ 18", x.pledge(1, BOND, 4_000_000_000_000L), 0);
        due("credit", x.credit(1), TOP);
        due("1 too much", x.pledge(1, SHARE, 1), 10);
        due("1 too much of another", x.pledge(2, SHARE, 1), 10);
        due("free", x.free(1, BOND, 1), 0);
        due("1 too much", x.pledge(1, SHARE, 1_000_001), 10);
        due("1 too much of another", x.pledge(2, SHARE, 1_000_001), 10);
        due("half", x.pledge(1, SHARE, 500_000), 0);
        due("1 too much", x.pledge(2, SHARE, 500_001), 10);
        due("4 * 10 ^ 18", x.pledge(2, SHARE, 500_000), 0);
        due("1 too much", x.pledge(2, SHARE, 1), 10);
        due("credits", x.credit(1) + x.credit(2), TOP);
        due("price at the top", x.price(SHARE, 1, 0), 0);
        due("price too high", x.price(SHARE, 2, 0), 10);
        due("price too high", x.price(BOND, 1_000_001, 0), 10);
        due("haircut lets it in", x.price(SHARE, 2, 50), 0);
        due("haircut too low", x.price(SHARE, 2, 49), 10);
        due("money can be drawn to the floor", x.leg(1, 2, MONEY, MOST), 0);
        due("holds()", x.holds(), true);
    }

    private static void allCreditsByPrice() {
        sentence("or all credits together more than 4 * 10 ^ 18");
        Desk x = Desk.usual();
        due("price", x.price(BOND, 1_000_000, 0), 0);
        due("price", x.price(SHARE, 0, 0), 0);
        due("give", x.give(1, BOND, MOST), 0);
        due("give", x.give(5, SHARE, 1_000_000), 0);
        due("pledge", x.pledge(1, BOND, 3_999_999_999_999L), 0);
        due("pledge", x.pledge(5, SHARE, 1_000_000), 0);
        due("price, just not too high", x.price(SHARE, 1, 0), 0);
        due("credit", x.credit(5), 1_000_000);
        due("price, too high by a million", x.price(SHARE, 2, 0), 10);
        due("haircut", x.price(SHARE, 100, 99), 0);
        due("price, too high by a hundredth", x.price(SHARE, 101, 99), 10);
        due("credit", x.credit(5), 1_000_000);
        due("price 0", x.price(SHARE, 0, 0), 0);
        due("pledge", x.pledge(1, BOND, 1), 0);
        due("price, too high by a million", x.price(SHARE, 1, 0), 10);
    }

    /** Just too great by the rest of a division, or by so much that Java's wrap-around makes it small or less than 0. */
    private static void creditsWrapAround() {
        sentence("or all credits together more than 4 * 10 ^ 18");
        long[][] tooGreat = {{122_494_331, 3_265_457_239_813L, 99}, {3_265_457_239_813L, 122_494_331, 99},
            {4_000_000_000_000L, 100_000_001, 99}, {2_000_000_001, 2_000_000_000, 0}, {MOST, 4_001, 0}, {4_001, MOST, 0},
            {MOST, MOST, 0}, {MOST, MOST, 99}, {MOST, 1L << 14, 0}, {3_037_000_500L, 3_037_000_500L, 0},
            {1L << 32, 1L << 32, 0}, {1L << 32, 1L << 31, 0}, {1L << 33, 1L << 31, 50}, {1L << 40, 1L << 40, 36}};
        for (long[] each : tooGreat) {
            isTooGreat(each[0], each[1], (int) each[2]);
        }
        for (int owners = 2; owners < P; owners++) {
            sumIsTooGreat(owners);
        }
    }

    private static void isTooGreat(long pledged, long price, int haircut) {
        Desk x = Desk.usual();
        String told = pledged + " * " + price + " less " + haircut + "%";
        due("give", x.give(1, BOND, pledged), 0);
        due("price", x.price(BOND, price, haircut), 0);
        due(told, x.pledge(1, BOND, pledged), 10);
        due("price 0", x.price(BOND, 0, 0), 0);
        due("pledge", x.pledge(1, BOND, pledged), 0);
        due(told + " by price", x.price(BOND, price, haircut), 10);
        due("credit", x.credit(1), 0);
    }

    /** Each credit by itself could be; five together are 2 * 10 ^ 19, which Java would take for 1.55 * 10 ^ 18. */
    private static void sumIsTooGreat(int owners) {
        Desk x = Desk.usual();
        due("price", x.price(BOND, 1, 0), 0);
        for (int p = 1; p <= owners; p++) {
            due("give", x.give(p, BOND, 4_000), 0);
            due("pledge", x.pledge(p, BOND, 4_000), 0);
        }
        due("price of " + owners, x.price(BOND, MOST, 0), 10);
        due("credit", x.credit(1), 4_000);
    }

    /** No price is ever changed here, so that the sum of all credits comes from pledges alone. */
    private static void allCreditsByPledge() {
        sentence("or all credits together more than 4 * 10 ^ 18");
        Desk x = new Desk(3, 2);
        due("security", x.security(1_000_000, 0), 0);
        due("security", x.security(1, 0), 1);
        for (int p = 1; p <= 2; p++) {
            due("give", x.give(p, 0, MOST), 0);
            due("give", x.give(p, 1, MOST), 0);
        }
        for (int i = 0; i < 3; i++) {
            due("pledge", x.pledge(1, 0, 3_999_999_999_999L), 0);
            due("pledge, 1 too much", x.pledge(2, 1, 1_000_001), 10);
            due("pledge", x.pledge(2, 1, 1_000_000), 0);
            due("pledge, 1 too much", x.pledge(1, 1, 1), 10);
            due("free", x.free(2, 1, 1), 0);
            due("pledge, 1 too much", x.pledge(1, 1, 2), 10);
            due("pledge", x.pledge(1, 1, 1), 0);
            due("credits", x.credit(1) + x.credit(2), TOP);
            due("free", x.free(1, 0, 3_999_999_999_999L), 0);
            due("free", x.free(1, 1, 1), 0);
            due("free", x.free(2, 1, 999_999), 0);
        }
    }

    private static void faultsInOrder() {
        sentence("FAULTS, the first that is so");
        Desk x = Desk.funded();
        due("8 before 9: back", x.back(1, MONEY, MOST + 1), 8);
        due("8 before 9: back by the bank", x.back(0, MONEY, MOST), 8);
        due("8 before 9: pledge", x.pledge(1, BOND, MOST + 1), 8);
        due("8 before 9: free", x.free(1, BOND, MOST), 8);
        due("8 before 9: price", x.price(BOND, 0, 100), 8);
        pay(x, 1, 2, MONEY, 5);
        due("8 before 9: limit", x.limit(1, 2, -1), 8);
        due("9: limit", x.limit(1, 2, 0), 9);
        due("9 before 10: pledge", x.pledge(1, BOND, MOST), 9);
        due("price", x.price(BOND, MOST, 0), 0);
        due("9 before 10: pledge", x.pledge(1, BOND, MOST), 9);
        due("give", x.give(1, BOND, MOST - 10), 0);
        due("10: pledge", x.pledge(1, BOND, MOST), 10);
        due("8 before 10: pledge", x.pledge(1, BOND, MOST + 1), 8);
        due("pledge", x.pledge(1, BOND, 4_000), 0);
        due("pledge", x.pledge(1, SHARE, 10), 0);
        due("10: price", x.price(SHARE, MOST, 0), 10);
        due("8 before 10: price", x.price(SHARE, MOST + 1, 0), 8);
        due("8 before 10: price", x.price(SHARE, MOST, -1), 8);
        for (int i = 0; i < 4; i++) {
            due("leg", x.leg(1, 2, MONEY, 1), 0);
        }
        due("8 before 12: leg", x.leg(1, 1, MONEY, 1), 8);
        due("8 before 12: leg", x.leg(1, 2, MONEY, 0), 8);
        due("8 before 12: leg", x.leg(1, 2, NOT_MADE, 1), 8);
        due("8 before 12: leg", x.leg(1, 0, MONEY, 1), 8);
        due("12: leg", x.leg(1, 2, MONEY, 1), 12);
    }

    private static void noFault() {
        sentence("Without a fault: 0.");
        Desk x = Desk.funded();
        due("price", x.price(BOND, 200, 10), 0);
        due("give", x.give(1, BOND, 1), 0);
        due("back", x.back(1, BOND, 1), 0);
        due("pledge", x.pledge(1, BOND, 1), 0);
        due("free", x.free(1, BOND, 1), 0);
        due("limit", x.limit(1, 2, 1), 0);
        due("open", x.open(1, 2), 0);
        due("leg", x.leg(1, 2, BOND, 1), 0);
    }

    // ---- legs

    private static void netsOfPositions() {
        sentence("their NET, for each position (and room that is there), is the sum of what they do to it: "
                + "an amount less for the one from which a leg goes, more for the one to which");
        Desk x = Desk.usual();
        due("without legs", x.net(position(1, MONEY)), 0);
        due("leg", x.leg(1, 2, OTHER, MOST), 0);
        due("leg", x.leg(1, 3, OTHER, MOST), 0);
        due("leg", x.leg(1, 2, OTHER, MOST), 0);
        due("leg", x.leg(3, 1, BOND, 4), 0);
        due("1", x.net(position(1, OTHER)), -3 * MOST);
        due("2", x.net(position(2, OTHER)), 2 * MOST);
        due("3", x.net(position(3, OTHER)), MOST);
        due("1 in the bond", x.net(position(1, BOND)), 4);
        due("3 in the bond", x.net(position(3, BOND)), -4);
        due("2 in the bond", x.net(position(2, BOND)), 0);
        due("1 in the money", x.net(position(1, MONEY)), 0);
        due("the bank", x.net(OTHER), 0);
        due("drop()", x.drop(), 4);
        due("leg", x.leg(1, 2, OTHER, 8), 0);
        due("leg", x.leg(2, 1, OTHER, 8), 0);
        due("there and back", x.net(position(1, OTHER)), 0);
        due("there and back", x.net(position(2, OTHER)), 0);
    }

    private static void netsOfRooms() {
        sentence("a leg in the money is a payment, so it does the same to the room of the first towards the second, "
                + "and the reverse to the room of the second towards the first");
        Desk x = Desk.usual();
        due("limit", x.limit(1, 2, 5), 0);
        due("limit", x.limit(2, 1, 5), 0);
        due("limit", x.limit(1, 3, 5), 0);
        due("leg in the money", x.leg(1, 2, MONEY, 7), 0);
        due("room 1 2", x.net(room(1, 2)), -7);
        due("room 2 1", x.net(room(2, 1)), 7);
        due("leg in another currency", x.leg(1, 2, OTHER, 70), 0);
        due("leg in a security", x.leg(1, 2, BOND, 700), 0);
        due("room 1 2", x.net(room(1, 2)), -7);
        due("room 2 1", x.net(room(2, 1)), 7);
        due("leg in the money", x.leg(2, 1, MONEY, 9), 0);
        due("room 1 2", x.net(room(1, 2)), 2);
        due("room 2 1", x.net(room(2, 1)), -2);
        due("room 1 3", x.net(room(1, 3)), 0);
        sentence("(and room that is there)");
        due("open", x.open(1, 2), 0);
        due("room 1 2 is not there", x.net(room(1, 2)), 0);
        due("room 2 1 is", x.net(room(2, 1)), -2);
        due("limit", x.limit(1, 2, 5), 0);
        due("room 1 2 is there again", x.net(room(1, 2)), 2);
    }

    private static boolean holdsWith(Desk x, int from, int to, int a, long v) {
        due("leg", x.leg(from, to, a, v), 0);
        boolean answer = x.holds();
        due("drop()", x.drop(), 1);
        return answer;
    }

    private static void holdsAtFloors() {
        sentence("It HOLDS if no position or room with a net below 0 would be below its floor by its net.");
        Desk x = Desk.funded();
        due("pledge", x.pledge(1, BOND, 8), 0);
        due("money to the floor", holdsWith(x, 1, 2, MONEY, 1_060), true);
        due("money below the floor", holdsWith(x, 1, 2, MONEY, 1_061), false);
        due("another currency to the floor", holdsWith(x, 1, 2, OTHER, 100), true);
        due("another currency below the floor", holdsWith(x, 1, 2, OTHER, 101), false);
        due("security to the floor", holdsWith(x, 1, 2, BOND, 2), true);
        due("security below the floor", holdsWith(x, 1, 2, BOND, 3), false);
        due("nothing is there", holdsWith(x, 5, 1, MONEY, 1), false);
        due("limit", x.limit(1, 2, 50), 0);
        due("room to the floor", holdsWith(x, 1, 2, MONEY, 50), true);
        due("room below the floor", holdsWith(x, 1, 2, MONEY, 51), false);
        due("not this room", holdsWith(x, 1, 3, MONEY, 51), true);
        due("not this room", holdsWith(x, 2, 1, MONEY, 51), true);
        due("not in the money", holdsWith(x, 1, 2, OTHER, 51), true);
        pay(x, 1, 2, MONEY, 20);
        due("room to the floor", holdsWith(x, 1, 2, MONEY, 30), true);
        due("room below the floor", holdsWith(x, 1, 2, MONEY, 31), false);
        pay(x, 2, 1, MONEY, 35);
        due("room to the floor", holdsWith(x, 1, 2, MONEY, 65), true);
        due("room below the floor", holdsWith(x, 1, 2, MONEY, 66), false);
        due("limit of 0", x.limit(3, 1, 0), 0);
        due("no room at all", holdsWith(x, 3, 1, MONEY, 1), false);
        due("open", x.open(3, 1), 0);
        due("no limit any more", holdsWith(x, 3, 1, MONEY, 1), true);
        due("the greatest", holdsWith(x, 3, 1, MONEY, MOST), false);
    }

    private static void holdsByNets() {
        sentence("It HOLDS if no position or room with a net below 0 would be below its floor by its net.");
        Desk x = Desk.funded();
        due("leg", x.leg(1, 2, OTHER, 60), 0);
        due("60 of 100", x.holds(), true);
        due("leg", x.leg(1, 3, OTHER, 41), 0);
        due("101 of 100", x.holds(), false);
        due("leg", x.leg(2, 1, OTHER, 1), 0);
        due("100 of 100", x.holds(), true);
        due("leg", x.leg(2, 3, SHARE, 11), 0);
        due("the last leg alone does not hold", x.holds(), false);
        due("drop()", x.drop(), 4);
        due("leg", x.leg(4, 5, BOND, MOST), 0);
        due("leg", x.leg(5, 3, BOND, MOST), 0);
        due("leg", x.leg(3, 4, BOND, MOST), 0);
        due("a ring of what nobody has", x.holds(), true);
        due("drop()", x.drop(), 3);
        due("leg", x.leg(4, 5, MONEY, 9), 0);
        due("leg", x.leg(5, 4, MONEY, 9), 0);
        due("limit of 0", x.limit(4, 5, 0), 0);
        due("limit of 0", x.limit(5, 4, 0), 0);
        due("there and back", x.holds(), true);
        due("leg", x.leg(5, 3, MONEY, 1), 0);
        due("more goes than comes", x.holds(), false);
        due("leg", x.leg(3, 5, MONEY, 2), 0);
        due("more comes than goes", x.holds(), true);
    }

    private static void holdsWithRoomsOfRing() {
        sentence("It HOLDS if no position or room with a net below 0 would be below its floor by its net.");
        Desk x = Desk.usual();
        due("leg", x.leg(1, 2, MONEY, 50), 0);
        due("leg", x.leg(2, 3, MONEY, 50), 0);
        due("leg", x.leg(3, 1, MONEY, 50), 0);
        due("without rooms", x.holds(), true);
        due("limit", x.limit(3, 1, 49), 0);
        due("a room of the ring is short by 1", x.holds(), false);
        due("limit", x.limit(3, 1, 50), 0);
        due("just not", x.holds(), true);
        due("limit", x.limit(1, 3, 0), 0);
        due("the reverse gets more", x.holds(), true);
        due("limit", x.limit(1, 2, 0), 0);
        due("no room", x.holds(), false);
        due("leg", x.leg(2, 1, MONEY, 50), 0);
        due("2 would be short", x.holds(), false);
        due("give", x.give(2, MONEY, 49), 0);
        due("2 would be short by 1", x.holds(), false);
        due("give", x.give(2, MONEY, 1), 0);
        due("all hold", x.holds(), true);
    }

    /** What holds is told of the state at the call, not of that when the legs were put. */
    private static void holdsNow() {
        sentence("It HOLDS if no position or room with a net below 0 would be below its floor by its net.");
        Desk x = Desk.funded();
        due("leg", x.leg(1, 2, MONEY, 220), 0);
        due("100 there", x.holds(), false);
        due("pledge", x.pledge(1, BOND, 1), 0);
        due("220 with credit", x.holds(), true);
        due("price", x.price(BOND, 119, 0), 0);
        due("219 with credit", x.holds(), false);
        due("price", x.price(BOND, 120, 0), 0);
        due("220 with credit", x.holds(), true);
        due("back", x.back(1, MONEY, 1), 0);
        due("219 with credit", x.holds(), false);
        due("give", x.give(1, MONEY, 1), 0);
        due("limit", x.limit(1, 2, 219), 0);
        due("no room", x.holds(), false);
        due("open", x.open(1, 2), 0);
        due("no limit", x.holds(), true);
        due("free", x.free(1, BOND, 1), 0);
        due("no credit", x.holds(), false);
        due("drop()", x.drop(), 1);
        due("leg", x.leg(1, 2, BOND, 10), 0);
        due("nothing pledged", x.holds(), true);
        due("pledge", x.pledge(1, BOND, 1), 0);
        due("1 pledged", x.holds(), false);
    }

    private static void ownMemory() {
        sentence("All memory is the class's own.");
        Desk x = Desk.funded();
        Desk y = Desk.usual();
        due("pledge", x.pledge(1, BOND, 5), 0);
        due("limit", x.limit(1, 2, 5), 0);
        due("leg", x.leg(1, 2, MONEY, 5), 0);
        due("post()", x.post(), true);
        due("leg", x.leg(1, 2, MONEY, 5), 0);
        for (int n = -1; n <= P * A + P * P; n++) {
            boolean position = n >= 0 && n < P * A && n % A != NOT_MADE;
            due("isThere(" + n + ") of another desk", y.isThere(n), position);
            due("value(" + n + ") of another desk", y.value(n), 0);
            due("net(" + n + ") of another desk", y.net(n), 0);
        }
        due("credit of another desk", y.credit(1), 0);
        due("limit of another desk", y.limit(1, 2, 0), 0);
        due("drop() of another desk", y.drop(), 0);
        y.day();
        due("room", x.value(room(1, 2)), 0);
        due("drop()", x.drop(), 1);
    }

    private static void termsOfThings() {
        participants();
        noOthersNumbers();
        assets();
        lastAsset();
        sorts();
        prices();
        haircuts();
        amounts();
        money();
        noMoney();
        lateMoney();
        positions();
        rooms();
        farRooms();
        roomIsThere();
        roomValue();
        greatRoomValue();
    }

    private static void termsOfFaults() {
        floors();
        creditIsRounded();
        creditIsGreat();
        belowFloor();
        roomBelowFloor();
        priceBelowFloorOfOne();
        bankFarBelow();
        allCredits();
        allCreditsByPrice();
        allCreditsByPledge();
        creditsWrapAround();
        faultsInOrder();
        noFault();
    }

    private static void termsOfLegs() {
        netsOfPositions();
        netsOfRooms();
        holdsAtFloors();
        holdsByNets();
        holdsWithRoomsOfRing();
        holdsNow();
        ownMemory();
    }

    public static void main(String[] args) {
        lastCall();
        mostPairs();
        termsOfThings();
        termsOfFaults();
        termsOfLegs();
        CHECK.end();
    }
}
