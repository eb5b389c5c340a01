/** Each promise of the document by itself: ordinary inputs, the edges that it names, wrong inputs. */
public final class PromiseTests {
    private static final long MOST = 999_999_999_999_999L;
    private static final long TOP = 4_000_000_000_000_000_000L;
    private static final int[] NO_CLIENTS = {0, -1, 8, 256, Integer.MIN_VALUE, Integer.MAX_VALUE};
    private static final long[] NO_AMOUNTS = {0, -1, MOST + 1, Long.MIN_VALUE, Long.MAX_VALUE};

    private static int wrong = 0;
    private static String promise = "";

    private static void due(String call, long got, long want) {
        if (got != want) {
            wrong++;
            System.out.println(promise + ": " + call + " answered " + got + ", due is " + want);
        }
    }

    private static void due(String call, boolean got, boolean want) {
        due(call, got ? 1 : 0, want ? 1 : 0);
    }

    private static int position(int p, int a) {
        return p * 6 + a;
    }

    private static int room(int p, int q) {
        return 48 + p * 8 + q;
    }

    /** 8 participants, 6 places for assets: 0 is the money, 1 a security (price 150, haircut 20), 2 another currency. */
    private static PositionDesk desk() {
        PositionDesk x = new PositionDesk(8, 6);
        due("currency()", x.currency(), 0);
        due("security(150, 20)", x.security(150, 20), 1);
        due("currency()", x.currency(), 2);
        return x;
    }

    private static PositionDesk fundedDesk() {
        PositionDesk x = desk();
        for (int p = 1; p <= 3; p++) {
            due("give money", x.give(p, 0, 100), 0);
            due("give security", x.give(p, 1, 10), 0);
            due("give other", x.give(p, 2, 100), 0);
        }
        return x;
    }

    private static void newObject() {
        promise = "1 new";
        size(2, 1, 2, 1);
        size(256, 64, 256, 64);
        size(1, 65, 8, 6);
        size(257, 0, 8, 6);
        size(-5, 3, 8, 3);
        size(3, -1, 3, 6);
        size(Integer.MIN_VALUE, Integer.MAX_VALUE, 8, 6);
        PositionDesk x = new PositionDesk(8, 6);
        for (int n = -3; n < 130; n++) {
            due("isThere(" + n + ")", x.isThere(n), false);
        }
        due("drop()", x.drop(), 0);
        due("credit(1)", x.credit(1), 0);
    }

    private static void size(int participants, int assets, int wantP, int wantA) {
        PositionDesk x = new PositionDesk(participants, assets);
        String told = "new(" + participants + ", " + assets + ") ";
        for (int a = 0; a < wantA; a++) {
            due(told + "currency()", x.currency(), a);
        }
        due(told + "currency() when full", x.currency(), -1);
        due(told + "security() when full", x.security(1, 1), -1);
        due(told + "last position", x.isThere(wantP * wantA - 1), true);
        due(told + "behind the last position", x.isThere(wantP * wantA), false);
        due(told + "give to the last", x.give(wantP - 1, wantA - 1, 7), 0);
        due(told + "value of the last", x.value(wantP * wantA - 1), 7);
        due(told + "value of the bank", x.value(wantA - 1), -7);
        due(told + "give behind the last", x.give(wantP, 0, 7), 8);
        due(told + "give of none behind the last", x.give(1, wantA, 7), 8);
    }

    private static void currency() {
        promise = "2 currency";
        PositionDesk x = new PositionDesk(8, 3);
        due("security(5, 0)", x.security(5, 0), 0);
        due("currency()", x.currency(), 1);
        due("currency()", x.currency(), 2);
        due("currency()", x.currency(), -1);
        due("give", x.give(1, 0, 10), 0);
        due("pledge", x.pledge(1, 0, 10), 0);
        due("floor of the money, the first currency", x.floor(3 + 1), -50);
        due("floor of the other", x.floor(3 + 2), 0);
    }

    private static void security() {
        promise = "3 security";
        PositionDesk x = new PositionDesk(8, 3);
        due("price -1", x.security(-1, 0), -1);
        due("price too high", x.security(MOST + 1, 0), -1);
        due("price far too high", x.security(Long.MAX_VALUE, 0), -1);
        due("haircut -1", x.security(1, -1), -1);
        due("haircut 100", x.security(1, 100), -1);
        due("least", x.security(0, 0), 0);
        due("most", x.security(MOST, 99), 1);
        due("one more", x.security(7, 50), 2);
        due("full", x.security(7, 50), -1);
        due("isThere", x.isThere(2), true);
    }

    private static void price() {
        promise = "4 price";
        PositionDesk x = fundedDesk();
        due("no asset", x.price(3, 5, 5), 8);
        due("no asset below 0", x.price(-1, 5, 5), 8);
        due("a currency", x.price(0, 5, 5), 8);
        due("price -1", x.price(1, -1, 5), 8);
        due("price too high", x.price(1, MOST + 1, 5), 8);
        due("haircut -1", x.price(1, 5, -1), 8);
        due("haircut 100", x.price(1, 5, 100), 8);
        due("pledge", x.pledge(1, 1, 10), 0);
        due("pledge", x.pledge(2, 1, 5), 0);
        due("back", x.back(1, 0, 150), 0);
        due("below the floor", x.price(1, 49, 90), 9);
        due("credit as before", x.credit(1), 1200);
        due("just not below the floor", x.price(1, 50, 90), 0);
        due("credit", x.credit(1), 50);
        due("credit of another", x.credit(2), 25);
        due("price 0", x.price(1, 0, 0), 9);
        due("back up", x.give(1, 0, 50), 0);
        due("price 0", x.price(1, 0, 0), 0);
        due("credit", x.credit(1), 0);
        due("highest", x.price(1, MOST, 0), 0);
        due("credit", x.credit(1), 10 * MOST);
        due("lowest haircut edge", x.price(1, MOST, 99), 0);
        due("credit", x.credit(1), 99_999_999_999_999L);
        priceTooMuch();
    }

    private static void priceTooMuch() {
        PositionDesk x = desk();
        x.price(1, 1, 0);
        due("give", x.give(1, 1, MOST), 0);
        due("give", x.give(2, 1, MOST), 0);
        due("pledge", x.pledge(1, 1, 1_000_000_000_000L), 0);
        due("pledge", x.pledge(2, 1, 3_000_000_000_000L), 0);
        due("more than all may have", x.price(1, 1_000_001, 0), 10);
        due("credit as before", x.credit(2), 3_000_000_000_000L);
        due("far more", x.price(1, MOST, 0), 10);
        due("just what all may have", x.price(1, 1_000_000, 0), 0);
        due("credit", x.credit(2), 3_000_000_000_000_000_000L);
        due("no more", x.pledge(3, 1, 1), 9);
        due("give", x.give(3, 1, 1), 0);
        due("no more", x.pledge(3, 1, 1), 10);
    }

    private static void give() {
        promise = "5 give";
        PositionDesk x = desk();
        for (int p : NO_CLIENTS) {
            due("give(" + p + ", 0, 1)", x.give(p, 0, 1), 8);
        }
        for (long v : NO_AMOUNTS) {
            due("give(1, 0, " + v + ")", x.give(1, 0, v), 8);
        }
        due("no asset", x.give(1, 3, 1), 8);
        due("no asset below 0", x.give(1, -1, 1), 8);
        due("no asset, far", x.give(1, Integer.MAX_VALUE, 1), 8);
        due("nothing changed", x.value(position(1, 0)), 0);
        due("least", x.give(1, 0, 1), 0);
        due("most", x.give(7, 0, MOST), 0);
        due("security", x.give(1, 1, 3), 0);
        due("value", x.value(position(1, 0)), 1);
        due("value", x.value(position(7, 0)), MOST);
        due("value", x.value(position(1, 1)), 3);
        due("bank's money", x.value(0), -MOST - 1);
        due("bank's security", x.value(1), -3);
        for (int i = 0; i < 400; i++) {
            due("give again", x.give(7, 0, MOST), 0);
        }
        due("bank's money", x.value(0), -401 * MOST - 1);
    }

    private static void back() {
        promise = "6 back";
        PositionDesk x = fundedDesk();
        for (int p : NO_CLIENTS) {
            due("back(" + p + ", 0, 1)", x.back(p, 0, 1), 8);
        }
        for (long v : NO_AMOUNTS) {
            due("back(1, 0, " + v + ")", x.back(1, 0, v), 8);
        }
        due("no asset", x.back(1, 3, 1), 8);
        due("no asset below 0", x.back(1, -1, 1), 8);
        due("too much money", x.back(1, 0, 101), 9);
        due("all money", x.back(1, 0, 100), 0);
        due("value", x.value(position(1, 0)), 0);
        due("bank", x.value(0), -200);
        due("pledge", x.pledge(1, 1, 4), 0);
        due("a pledged one", x.back(1, 1, 7), 9);
        due("all that is not pledged", x.back(1, 1, 6), 0);
        due("more than the credit", x.back(1, 0, 481), 9);
        due("all the credit", x.back(1, 0, 480), 0);
        due("value", x.value(position(1, 0)), -480);
        due("bank", x.value(0), 280);
        due("credit is of no use in another currency", x.back(1, 2, 101), 9);
        due("all of it", x.back(1, 2, 100), 0);
    }

    private static void pledge() {
        promise = "7 pledge";
        PositionDesk x = fundedDesk();
        for (int p : NO_CLIENTS) {
            due("pledge(" + p + ", 1, 1)", x.pledge(p, 1, 1), 8);
        }
        for (long v : NO_AMOUNTS) {
            due("pledge(1, 1, " + v + ")", x.pledge(1, 1, v), 8);
        }
        due("the money", x.pledge(1, 0, 1), 8);
        due("another currency", x.pledge(1, 2, 1), 8);
        due("no asset", x.pledge(1, 3, 1), 8);
        due("no asset below 0", x.pledge(1, -1, 1), 8);
        due("more than there is", x.pledge(1, 1, 11), 9);
        due("some", x.pledge(1, 1, 6), 0);
        due("more than is left", x.pledge(1, 1, 5), 9);
        due("floor", x.floor(position(1, 1)), 6);
        due("all", x.pledge(1, 1, 4), 0);
        due("floor", x.floor(position(1, 1)), 10);
        due("value", x.value(position(1, 1)), 10);
        due("credit", x.credit(1), 1200);
        due("credit of another", x.credit(2), 0);
        pledgeTooMuch();
    }

    private static void pledgeTooMuch() {
        PositionDesk x = desk();
        due("price", x.price(1, 1_000_000, 0), 0);
        due("give", x.give(1, 1, MOST), 0);
        due("give", x.give(2, 1, MOST), 0);
        due("below the floor comes first", x.pledge(3, 1, MOST), 9);
        due("far too much", x.pledge(1, 1, MOST), 10);
        due("just too much", x.pledge(1, 1, 4_000_000_000_001L), 10);
        due("some", x.pledge(1, 1, 3_999_999_999_999L), 0);
        due("of all together", x.pledge(2, 1, 2), 10);
        due("just what all may have", x.pledge(2, 1, 1), 0);
        due("credits", x.credit(1) + x.credit(2), TOP);
        due("no more", x.pledge(1, 1, 1), 10);
        due("floor", x.floor(position(1, 1)), 3_999_999_999_999L);
        due("less", x.free(1, 1, 1), 0);
        due("again", x.pledge(2, 1, 1), 0);
        pledgeToTheTop();
    }

    /** One participant has all the credit that there may be, and not 1 more of any security. */
    private static void pledgeToTheTop() {
        PositionDesk x = new PositionDesk(8, 6);
        due("security", x.security(1_000_000, 0), 0);
        due("security", x.security(1, 0), 1);
        due("give", x.give(1, 0, MOST), 0);
        due("give", x.give(1, 1, 5), 0);
        due("give", x.give(2, 1, 5), 0);
        due("all that there may be", x.pledge(1, 0, 4_000_000_000_000L), 0);
        due("credit", x.credit(1), TOP);
        due("1 more", x.pledge(1, 1, 1), 10);
        due("1 more of another", x.pledge(2, 1, 1), 10);
        due("worth nothing", x.price(1, 1, 1), 0);
        due("so it can be pledged", x.pledge(2, 1, 1), 0);
        due("but not get a worth", x.price(1, 1, 0), 10);
    }

    private static void free() {
        promise = "8 free";
        PositionDesk x = fundedDesk();
        due("nothing is pledged", x.free(1, 1, 1), 8);
        due("pledge", x.pledge(1, 1, 8), 0);
        for (int p : NO_CLIENTS) {
            due("free(" + p + ", 1, 1)", x.free(p, 1, 1), 8);
        }
        for (long v : NO_AMOUNTS) {
            due("free(1, 1, " + v + ")", x.free(1, 1, v), 8);
        }
        due("the money", x.free(1, 0, 1), 8);
        due("no asset", x.free(1, 3, 1), 8);
        due("no asset below 0", x.free(1, -1, 1), 8);
        due("more than is pledged", x.free(1, 1, 9), 8);
        due("another's", x.free(2, 1, 1), 8);
        due("back", x.back(1, 0, 460), 0);
        due("below the floor", x.free(1, 1, 6), 9);
        due("credit as before", x.credit(1), 960);
        due("just not below", x.free(1, 1, 5), 0);
        due("credit", x.credit(1), 360);
        due("floor", x.floor(position(1, 1)), 3);
        due("value", x.value(position(1, 1)), 10);
        due("give", x.give(1, 0, 360), 0);
        due("all", x.free(1, 1, 3), 0);
        due("floor", x.floor(position(1, 1)), 0);
        freeWithoutMoney();
    }

    private static void freeWithoutMoney() {
        PositionDesk x = new PositionDesk(8, 6);
        due("security", x.security(10, 0), 0);
        due("give", x.give(1, 0, 5), 0);
        due("pledge", x.pledge(1, 0, 5), 0);
        due("credit", x.credit(1), 50);
        due("price", x.price(0, 20, 0), 0);
        due("free", x.free(1, 0, 2), 0);
        due("credit", x.credit(1), 60);
        due("leg", x.leg(1, 2, 0, 3), 0);
        due("holds", x.holds(), false);
        due("limit", x.limit(1, 2, 0), 0);
        due("net of a room without money", x.net(room(1, 2)), 0);
        due("currency", x.currency(), 1);
        due("floor", x.floor(position(1, 1)), -60);
    }

    private static void limit() {
        promise = "9 limit";
        PositionDesk x = fundedDesk();
        for (int p : NO_CLIENTS) {
            due("limit(" + p + ", 1, 1)", x.limit(p, 1, 1), 8);
            due("limit(1, " + p + ", 1)", x.limit(1, p, 1), 8);
        }
        due("towards itself", x.limit(1, 1, 1), 8);
        due("-1", x.limit(1, 2, -1), 8);
        due("too high", x.limit(1, 2, MOST + 1), 8);
        due("far too high", x.limit(1, 2, Long.MAX_VALUE), 8);
        due("far too low", x.limit(1, 2, Long.MIN_VALUE), 8);
        due("isThere", x.isThere(room(1, 2)), false);
        due("0", x.limit(1, 2, 0), 0);
        due("isThere", x.isThere(room(1, 2)), true);
        due("the reverse is not there", x.isThere(room(2, 1)), false);
        due("most", x.limit(1, 2, MOST), 0);
        due("value", x.value(room(1, 2)), MOST);
        due("leg", x.leg(1, 2, 0, 30), 0);
        due("post", x.post(), true);
        due("below what was paid", x.limit(1, 2, 29), 9);
        due("value as before", x.value(room(1, 2)), MOST - 30);
        due("just what was paid", x.limit(1, 2, 30), 0);
        due("value", x.value(room(1, 2)), 0);
        due("the other way", x.limit(2, 1, 0), 0);
        due("value", x.value(room(2, 1)), 30);
        fortyLimits();
    }

    private static void fortyLimits() {
        PositionDesk x = fundedDesk();
        due("leg", x.leg(7, 1, 0, 5), 0);
        due("give", x.give(7, 0, 5), 0);
        due("post", x.post(), true);
        for (int p = 1; p < 8; p++) {
            for (int q = 1; q < 8; q++) {
                boolean kept = p == 7 && q < 3;
                if (p != q && !kept) {
                    due("limit of forty", x.limit(p, q, 100), 0);
                }
            }
        }
        due("below the floor comes first", x.limit(7, 1, 4), 9);
        due("no place", x.limit(7, 1, 5), 12);
        due("no place", x.limit(7, 2, 0), 12);
        due("what can't be comes first", x.limit(7, 7, 0), 8);
        due("isThere", x.isThere(room(7, 1)), false);
        due("one of the forty gets another", x.limit(1, 2, 77), 0);
        due("value", x.value(room(1, 2)), 77);
        due("open", x.open(1, 3), 0);
        due("there is a place", x.limit(7, 1, 9), 0);
        due("value", x.value(room(7, 1)), 4);
        due("value of an old one", x.value(room(1, 2)), 77);
        due("no place again", x.limit(1, 3, 1), 12);
    }

    private static void open() {
        promise = "10 open";
        PositionDesk x = fundedDesk();
        due("there was none", x.open(1, 2), 8);
        due("limit", x.limit(1, 2, 10), 0);
        due("limit", x.limit(2, 3, 20), 0);
        due("limit", x.limit(3, 1, 30), 0);
        for (int p : NO_CLIENTS) {
            due("open(" + p + ", 2)", x.open(p, 2), 8);
            due("open(1, " + p + ")", x.open(1, p), 8);
        }
        due("itself", x.open(1, 1), 8);
        due("the reverse", x.open(2, 1), 8);
        due("open", x.open(1, 2), 0);
        due("isThere", x.isThere(room(1, 2)), false);
        due("value", x.value(room(1, 2)), 0);
        due("another stays", x.value(room(2, 3)), 20);
        due("another stays", x.value(room(3, 1)), 30);
        due("once more", x.open(1, 2), 8);
        due("leg", x.leg(1, 2, 0, 50), 0);
        due("no limit any more", x.post(), true);
        due("what was paid meanwhile counts", x.limit(1, 2, 49), 9);
        due("what was paid meanwhile counts", x.limit(1, 2, 60), 0);
        due("value", x.value(room(1, 2)), 10);
    }

    private static void leg() {
        promise = "11 leg";
        PositionDesk x = fundedDesk();
        for (int p : NO_CLIENTS) {
            due("leg(" + p + ", 1, 0, 1)", x.leg(p, 1, 0, 1), 8);
            due("leg(1, " + p + ", 0, 1)", x.leg(1, p, 0, 1), 8);
        }
        for (long v : NO_AMOUNTS) {
            due("leg(1, 2, 0, " + v + ")", x.leg(1, 2, 0, v), 8);
        }
        due("itself", x.leg(1, 1, 0, 1), 8);
        due("no asset", x.leg(1, 2, 3, 1), 8);
        due("no asset below 0", x.leg(1, 2, -1, 1), 8);
        due("none so far", x.drop(), 0);
        due("least", x.leg(1, 2, 0, 1), 0);
        due("most", x.leg(1, 2, 1, MOST), 0);
        due("other currency", x.leg(7, 2, 2, 5), 0);
        due("fourth", x.leg(2, 1, 0, 1), 0);
        due("no place", x.leg(2, 1, 0, 1), 12);
        due("what can't be comes first", x.leg(2, 2, 0, 1), 8);
        due("net", x.net(position(2, 1)), MOST);
        due("drop", x.drop(), 4);
    }

    private static void holds() {
        promise = "12 holds";
        PositionDesk x = fundedDesk();
        due("without legs", x.holds(), true);
        due("all the money", holdsWith(x, 1, 2, 0, 100), true);
        due("more", holdsWith(x, 1, 2, 0, 101), false);
        due("all of another currency", holdsWith(x, 1, 2, 2, 100), true);
        due("more", holdsWith(x, 1, 2, 2, 101), false);
        due("pledge", x.pledge(1, 1, 4), 0);
        due("all that is not pledged", holdsWith(x, 1, 2, 1, 6), true);
        due("more", holdsWith(x, 1, 2, 1, 7), false);
        due("all the credit", holdsWith(x, 1, 2, 0, 580), true);
        due("more", holdsWith(x, 1, 2, 0, 581), false);
        due("credit is of no use here", holdsWith(x, 1, 2, 2, 101), false);
        due("limit", x.limit(1, 2, 70), 0);
        due("all the room", holdsWith(x, 1, 2, 0, 70), true);
        due("more", holdsWith(x, 1, 2, 0, 71), false);
        due("towards another", holdsWith(x, 1, 3, 0, 71), true);
        due("a room is of the money alone", holdsWith(x, 1, 2, 2, 71), true);
        due("limit", x.limit(2, 1, 0), 0);
        due("the reverse room gets more", holdsWith(x, 1, 2, 0, 70), true);
        due("but is none itself", holdsWith(x, 2, 1, 0, 1), false);
        holdsByNet();
    }

    private static boolean holdsWith(PositionDesk x, int from, int to, int a, long v) {
        due("leg", x.leg(from, to, a, v), 0);
        boolean answer = x.holds();
        due("drop", x.drop(), 1);
        return answer;
    }

    private static void holdsByNet() {
        PositionDesk x = fundedDesk();
        due("limit", x.limit(1, 2, 5), 0);
        due("leg", x.leg(1, 2, 0, 500), 0);
        due("leg", x.leg(3, 1, 0, 100), 0);
        due("holds", x.holds(), false);
        due("leg", x.leg(2, 1, 0, 494), 0);
        due("room is short by 1", x.holds(), false);
        due("leg", x.leg(2, 1, 0, 1), 0);
        due("holds", x.holds(), true);
        due("drop", x.drop(), 4);
        due("leg", x.leg(4, 5, 0, 1_000), 0);
        due("leg", x.leg(5, 6, 0, 1_000), 0);
        due("holds", x.holds(), false);
        due("leg", x.leg(6, 4, 0, 1_000), 0);
        due("a ring of them has no net", x.holds(), true);
        due("leg", x.leg(2, 3, 1, 11), 0);
        due("the last one breaks it", x.holds(), false);
        due("give", x.give(2, 1, 1), 0);
        due("what is there now counts", x.holds(), true);
    }

    private static void post() {
        promise = "13 post";
        PositionDesk x = fundedDesk();
        due("without legs", x.post(), true);
        due("limit", x.limit(1, 2, 90), 0);
        due("leg", x.leg(1, 2, 0, 95), 0);
        due("leg", x.leg(2, 1, 1, 4), 0);
        due("does not hold", x.post(), false);
        due("nothing is done", x.value(position(1, 1)), 10);
        due("legs stay", x.net(position(1, 0)), -95);
        due("leg", x.leg(2, 1, 0, 15), 0);
        due("leg", x.leg(2, 3, 2, 100), 0);
        due("holds", x.post(), true);
        due("value", x.value(position(1, 0)), 20);
        due("value", x.value(position(2, 0)), 180);
        due("value", x.value(position(1, 1)), 14);
        due("value", x.value(position(2, 1)), 6);
        due("value", x.value(position(2, 2)), 0);
        due("value", x.value(position(3, 2)), 200);
        due("room", x.value(room(1, 2)), 10);
        due("bank", x.value(0), -300);
        due("no legs any more", x.drop(), 0);
        due("net", x.net(position(1, 0)), 0);
        due("another currency is no payment", x.limit(2, 3, 0), 0);
        due("room", x.value(room(2, 3)), 0);
        due("post again", x.post(), true);
        due("value", x.value(position(1, 0)), 20);
    }

    private static void drop() {
        promise = "14 drop";
        PositionDesk x = fundedDesk();
        for (int legs = 0; legs <= 4; legs++) {
            for (int i = 0; i < legs; i++) {
                due("leg", x.leg(1, 2, 0, 10), 0);
            }
            due("drop()", x.drop(), legs);
            due("net", x.net(position(1, 0)), 0);
            due("drop() again", x.drop(), 0);
        }
        due("value", x.value(position(1, 0)), 100);
    }

    private static void net() {
        promise = "15 net";
        PositionDesk x = fundedDesk();
        due("limit", x.limit(1, 2, 5), 0);
        due("leg", x.leg(1, 2, 0, 40), 0);
        due("leg", x.leg(2, 1, 0, 15), 0);
        due("leg", x.leg(1, 3, 0, 7), 0);
        due("leg", x.leg(1, 2, 2, 9), 0);
        due("1", x.net(position(1, 0)), -32);
        due("2", x.net(position(2, 0)), 25);
        due("3", x.net(position(3, 0)), 7);
        due("1 in another currency", x.net(position(1, 2)), -9);
        due("2 in another currency", x.net(position(2, 2)), 9);
        due("none in the security", x.net(position(1, 1)), 0);
        due("the bank", x.net(0), 0);
        due("room", x.net(room(1, 2)), -25);
        due("room that is not there", x.net(room(2, 1)), 0);
        due("room that is not there", x.net(room(1, 3)), 0);
        due("limit", x.limit(2, 1, 5), 0);
        due("room that is there now", x.net(room(2, 1)), 25);
        due("open", x.open(1, 2), 0);
        due("room that is not there any more", x.net(room(1, 2)), 0);
        due("no asset", x.net(position(1, 3)), 0);
        for (int n : new int[] {-1, -6, 112, 113, Integer.MIN_VALUE, Integer.MAX_VALUE}) {
            due("net(" + n + ")", x.net(n), 0);
        }
    }

    private static void value() {
        promise = "16 value";
        PositionDesk x = fundedDesk();
        due("1", x.value(position(1, 0)), 100);
        due("security", x.value(position(2, 1)), 10);
        due("nothing", x.value(position(4, 0)), 0);
        due("the bank", x.value(0), -300);
        due("no asset", x.value(position(1, 3)), 0);
        due("no room", x.value(room(1, 2)), 0);
        due("limit", x.limit(1, 2, 50), 0);
        due("limit", x.limit(2, 1, 60), 0);
        due("room", x.value(room(1, 2)), 50);
        due("leg", x.leg(2, 1, 0, 12), 0);
        due("legs do nothing yet", x.value(room(2, 1)), 60);
        due("post", x.post(), true);
        due("room", x.value(room(1, 2)), 62);
        due("room", x.value(room(2, 1)), 48);
        due("give is no payment", x.give(2, 0, 5), 0);
        due("room", x.value(room(2, 1)), 48);
        for (int n : new int[] {-1, -6, -48, 112, 113, Integer.MIN_VALUE, Integer.MAX_VALUE}) {
            due("value(" + n + ")", x.value(n), 0);
        }
    }

    private static void floor() {
        promise = "17 floor";
        PositionDesk x = fundedDesk();
        due("pledge", x.pledge(1, 1, 3), 0);
        due("limit", x.limit(1, 2, 50), 0);
        due("money", x.floor(position(1, 0)), -360);
        due("security", x.floor(position(1, 1)), 3);
        due("another currency", x.floor(position(1, 2)), 0);
        due("another's money", x.floor(position(2, 0)), 0);
        due("another's security", x.floor(position(2, 1)), 0);
        due("room", x.floor(room(1, 2)), 0);
        for (int a = 0; a < 3; a++) {
            due("the bank", x.floor(a), Long.MIN_VALUE);
        }
        due("the bank without asset", x.floor(3), 0);
        due("no asset", x.floor(position(1, 3)), 0);
        for (int n : new int[] {-1, -6, -48, 112, 113, Integer.MIN_VALUE, Integer.MAX_VALUE}) {
            due("floor(" + n + ")", x.floor(n), 0);
        }
    }

    private static void isThere() {
        promise = "18 isThere";
        PositionDesk x = fundedDesk();
        due("limit", x.limit(7, 6, 1), 0);
        due("limit", x.limit(1, 2, 1), 0);
        for (int n = -60; n < 200; n++) {
            boolean position = n >= 0 && n < 48 && n % 6 < 3;
            due("isThere(" + n + ")", x.isThere(n), position || n == room(7, 6) || n == room(1, 2));
        }
        due("least", x.isThere(Integer.MIN_VALUE), false);
        due("most", x.isThere(Integer.MAX_VALUE), false);
        PositionDesk y = new PositionDesk(256, 64);
        due("limit", y.limit(255, 254, 1), 0);
        due("the last room", y.isThere(256 * 64 + 255 * 256 + 254), true);
        due("value", y.value(256 * 64 + 255 * 256 + 254), 1);
    }

    private static void credit() {
        promise = "19 credit";
        PositionDesk x = new PositionDesk(8, 6);
        due("currency", x.currency(), 0);
        due("security", x.security(7, 33), 1);
        due("security", x.security(3, 51), 2);
        due("give", x.give(7, 1, 10), 0);
        due("give", x.give(7, 2, 10), 0);
        due("none", x.credit(7), 0);
        due("pledge", x.pledge(7, 1, 1), 0);
        due("4.69", x.credit(7), 4);
        due("pledge", x.pledge(7, 2, 1), 0);
        due("4.69 and 1.47, each rounded down", x.credit(7), 5);
        due("pledge", x.pledge(7, 1, 2), 0);
        due("14.07 and 1.47", x.credit(7), 15);
        for (int p : NO_CLIENTS) {
            due("credit(" + p + ")", x.credit(p), 0);
        }
        creditOfGreatNumbers();
    }

    private static void creditOfGreatNumbers() {
        PositionDesk x = desk();
        due("price", x.price(1, 40, 99), 0);
        for (int i = 0; i < 300; i++) {
            due("give", x.give(1, 1, MOST), 0);
            due("pledge once for each", i < 180 ? x.pledge(1, 1, MOST) : 0, 0);
        }
        due("180 * MOST * 40 / 100", x.credit(1), 71_999_999_999_999_928L);
        due("price", x.price(1, 2_223, 99), 10);
        due("price", x.price(1, 2_222, 99), 0);
        due("180 * MOST * 2222 / 100", x.credit(1), 3_999_599_999_999_996_000L);
    }

    private static void day() {
        promise = "20 day";
        PositionDesk x = fundedDesk();
        due("limit", x.limit(1, 2, 50), 0);
        due("limit", x.limit(2, 1, 60), 0);
        due("leg", x.leg(1, 2, 0, 30), 0);
        due("leg", x.leg(3, 2, 0, 30), 0);
        due("post", x.post(), true);
        due("leg", x.leg(1, 2, 0, 45), 0);
        due("holds", x.holds(), false);
        x.day();
        due("room", x.value(room(1, 2)), 50);
        due("room", x.value(room(2, 1)), 60);
        due("positions stay", x.value(position(1, 0)), 70);
        due("legs stay", x.net(room(1, 2)), -45);
        due("holds", x.holds(), true);
        due("without a limit too", x.limit(3, 2, 0), 0);
        due("post", x.post(), true);
        due("room", x.value(room(1, 2)), 5);
        x.day();
        x.day();
        due("room", x.value(room(1, 2)), 50);
    }

    /** So many pairs pay each other in one day as 512 calls let them, more or less; all of it must be remembered. */
    private static void manyPairs() {
        promise = "many pairs";
        PositionDesk x = new PositionDesk(256, 64);
        x.currency();
        x.give(255, 0, 1_000_000);
        for (int q = 1; q <= 252; q++) {
            due("leg", x.leg(255, q, 0, q), 0);
            if (q % 4 == 0) {
                due("post", x.post(), true);
            }
        }
        for (int i = 1; i <= 20; i++) {
            int q = i * 12;
            due("less than was paid", x.limit(255, q, q - 1), 9);
            due("limit", x.limit(255, q, 2 * q + 1), 0);
            due("room", x.value(256 * 64 + 255 * 256 + q), q + 1);
            due("limit", x.limit(q, 255, 0), 0);
            due("room", x.value(256 * 64 + q * 256 + 255), q);
        }
        due("no place", x.limit(1, 255, 0), 12);
    }

    public static void main(String[] args) {
        newObject();
        currency();
        security();
        price();
        give();
        back();
        pledge();
        free();
        limit();
        open();
        leg();
        holds();
        post();
        drop();
        net();
        value();
        floor();
        isThere();
        credit();
        day();
        manyPairs();
        System.out.println(wrong == 0 ? "all answers are as due" : wrong + " answers are not as due");
        if (wrong != 0) {
            System.exit(1);
        }
    }
}
