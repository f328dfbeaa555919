/** Promises 1 to 26 together: long runs of calls, each answer compared with that of the model. */
public final class ModelTest {
    private static final int RUNS = 1000;
    private static final int CALLS = 512;
    private static final int[] ODD = {-1, 0, 1, 4, 5, 7, 8, 19, 20, 59, 60, 80, 100, 500, 501, 1000, 1001, 50000, 50001,
        100000, 100001, 1000000, 1000001, 2000000, 2000001, 10000000, 10000001, Integer.MIN_VALUE, Integer.MAX_VALUE};
    private static final String[] ACTS = {"setBand", "removeBand", "addLot", "addLot", "setReserve", "withdrawLot",
        "addBidder", "setLimit", "set", "bid", "bid", "bid", "bid", "bid", "bid", "bid", "bid", "withdrawBid", "type",
        "clearText", "letter", "undo"};
    private static final String[] TELLINGS = {"valid", "sale", "sale", "ranked", "fate", "fate", "needed", "lot", "bidOf",
        "bidder", "seller", "account", "count"};

    private long seed;
    private PostalAuction auction;
    private Model model;
    private boolean isWide;

    public static void main(String[] args) {
        for (int run = 1; run <= RUNS; run++) {
            new ModelTest().compare(run);
        }
        Script.end("ModelTest");
    }

    /** The same numbers on every machine and in every run of the tests. */
    private int below(int bound) {
        seed = seed * 6364136223846793005L + 1442695040888963407L;
        return (int) Long.remainderUnsigned(seed >>> 33, bound);
    }

    private void compare(int run) {
        seed = run * 7919L;
        auction = new PostalAuction();
        model = new Model();
        isWide = run % 3 == 0;
        int lots = 1 + below(8);
        int bidders = 1 + below(8);
        for (int i = 0; i < lots; i++) {
            make(run, new Call("addLot", below(5), amount(), below(3) == 0 ? amount() : 0));
        }
        for (int i = 0; i < bidders; i++) {
            make(run, new Call("addBidder", below(4) == 0 ? 1000 : 2 * amount()));
        }
        for (int made = lots + bidders; made < CALLS; made++) {
            boolean acts = below(5) < 2;
            if (acts && below(12) == 0 && made < CALLS - 40) {
                made += typeLetter(run);
            } else {
                make(run, next(acts ? ACTS[below(ACTS.length)] : TELLINGS[below(TELLINGS.length)]));
            }
        }
    }

    private void make(int run, Call call) {
        Script.due("run " + run + ": " + call, call.on(auction), call.on(model));
    }

    private Call next(String name) {
        Object[] arguments = usual(name);
        // needed is dear in the model: it is asked more seldom
        if (name.equals("needed") && below(3) > 0) {
            return next("sale");
        }
        if (arguments.length > 0 && below(15) == 0) {
            int at = below(arguments.length);
            if (arguments[at] instanceof Integer) {
                arguments[at] = ODD[below(ODD.length)];
            }
        }
        // a band of great steps makes the model slow, and hides all else
        if (name.equals("setBand") && (int) arguments[1] > 50 && (int) arguments[0] < 300) {
            arguments[1] = 50;
        }
        return new Call(name, arguments);
    }

    private Object[] usual(String name) {
        switch (name) {
            case "setBand": return new Object[] {below(3) == 0 ? 0 : below(120), 1 + below(12)};
            case "removeBand": return new Object[] {below(120)};
            case "valid": return new Object[] {below(200), below(3)};
            case "addLot": return new Object[] {below(5), amount(), below(3) == 0 ? amount() : 0};
            case "setReserve": return new Object[] {lot(), amount()};
            case "withdrawLot": return new Object[] {lot(), below(2) == 0};
            case "addBidder": return new Object[] {2 * amount()};
            case "setLimit": return new Object[] {bidder(), below(3) == 0 ? 10000 : 3 * amount()};
            case "set": return setting();
            case "bid": return new Object[] {bidder(), lot(), 1 + amount(), postmark(), below(2) * below(4)};
            case "withdrawBid": case "fate": return new Object[] {bid()};
            case "type": return new Object[] {"0123456789=/,x".charAt(below(14))};
            case "letter": return new Object[] {bidder(), postmark()};
            case "sale": return new Object[] {lot(), below(6)};
            case "ranked": return new Object[] {lot(), below(4)};
            case "needed": return new Object[] {bidder(), lot(), postmark()};
            case "lot": return new Object[] {lot(), below(6)};
            case "bidOf": return new Object[] {bid(), below(2) == 0 ? 6 : below(6)};
            case "bidder": return new Object[] {bidder(), below(4)};
            case "seller": return new Object[] {below(5), below(4)};
            case "account": return new Object[] {below(7)};
            case "count": return new Object[] {below(14)};
            default: return new Object[0];
        }
    }

    private Object[] setting() {
        int what = below(4);
        return new Object[] {what, what == 0 ? 3 + below(3) * 25000 : below(501)};
    }

    /** Few amounts, so that many are equal; in a wide run some are close to 1000000. */
    private int amount() {
        if (isWide && below(25) == 0) {
            return 999950 + below(50);
        }
        return below(3) == 0 ? below(10) * 10 : below(90);
    }

    private int postmark() {
        return below(20) == 0 ? 50000 + below(2) : below(6);
    }

    private int lot() {
        return below(Math.max(auction.count(0), 1));
    }

    private int bidder() {
        return below(Math.max(auction.count(1), 1));
    }

    private int bid() {
        return below(Math.max(auction.count(2), 1));
    }

    /** Types a text that is mostly a letter without a fault, and sends it; answers the number of calls. */
    private int typeLetter(int run) {
        StringBuilder text = new StringBuilder();
        for (int bids = 1 + below(6); bids > 0; bids--) {
            text.append(lot()).append('=').append(1 + amount()).append(bids == 1 ? "" : below(2) == 0 ? "," : "/");
        }
        if (below(4) == 0) {
            text.insert(below(text.length() + 1), "0123456789=/,x".charAt(below(14)));
        }
        if (below(6) == 0) {
            text.deleteCharAt(below(text.length()));
        }
        make(run, new Call("clearText"));
        for (int i = 0; i < Math.min(text.length(), 32); i++) {
            make(run, new Call("type", text.charAt(i)));
        }
        make(run, new Call("letter", bidder(), postmark()));
        return Math.min(text.length(), 32) + 1;
    }
}
