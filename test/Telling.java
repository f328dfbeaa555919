import java.util.ArrayList;
import java.util.List;

/**
 * All that can be told of an auction after a run of calls: its answers, its text, and the same for each state of its
 * history. It is told by new objects on which the run is made again, as an object lives for 512 calls alone.
 */
final class Telling {
    private static final int MOST_CALLS = 512;

    private final List<Call> run;
    private final List<String> told = new ArrayList<>();

    private Telling(List<Call> run) {
        this.run = run;
    }

    static List<String> after(List<Call> run) {
        Telling telling = new Telling(run);
        telling.tellText();
        int states = Math.min(telling.auctionBefore(0).count(12), 5);
        for (int undos = 0; undos <= states; undos++) {
            telling.tellState(undos);
        }
        return telling.told;
    }

    /** The same without the text, the states of the history, and their number. */
    static List<String> state(List<Call> run) {
        Telling telling = new Telling(run);
        telling.tellState(0);
        telling.told.removeIf(line -> line.contains("count(12)"));
        return telling.told;
    }

    /** The first place where they differ, or an empty text. */
    static String difference(List<String> got, List<String> want) {
        for (int i = 0; i < Math.max(got.size(), want.size()); i++) {
            String one = i < got.size() ? got.get(i) : "nothing";
            String other = i < want.size() ? want.get(i) : "nothing";
            if (!one.equals(other)) {
                return one + " in place of " + other;
            }
        }
        return "";
    }

    private PostalAuction auctionBefore(int undos) {
        PostalAuction auction = new PostalAuction();
        for (Call call : run) {
            call.on(auction);
        }
        for (int i = 0; i < undos; i++) {
            auction.undo();
        }
        return auction;
    }

    private void tellState(int undos) {
        PostalAuction auction = auctionBefore(undos);
        int made = run.size() + undos + 3;
        for (Call telling : tellings(auction.count(0), auction.count(1), auction.count(2))) {
            if (made >= MOST_CALLS) {
                auction = auctionBefore(undos);
                made = run.size() + undos;
            }
            told.add("after " + undos + " undos " + telling + " = " + telling.on(auction));
            made++;
        }
    }

    /** The text shows only by a letter, which needs a bidder, lots and room for bids. */
    private void tellText() {
        PostalAuction auction = auctionBefore(0);
        for (int i = 0; i < 4 && auction.count(2) > 0; i++) {
            told.add("undo before the letter = " + auction.undo());
        }
        auction.addBidder(0);
        for (int lot = auction.count(0); lot < 20; lot++) {
            told.add("addLot before the letter = " + auction.addLot(0, 0, 0));
        }
        int before = auction.count(2);
        told.add("letter of the text = " + auction.letter(0, 0));
        for (int bid = before; bid < auction.count(2); bid++) {
            told.add("bid of the text: " + auction.bidOf(bid, 0) + "=" + auction.bidOf(bid, 2) + " group "
                    + auction.bidOf(bid, 4));
        }
    }

    private static List<Call> tellings(int lots, int bidders, int bids) {
        List<Call> tellings = new ArrayList<>();
        add(tellings, "count", -1, 14);
        for (int lot = 0; lot < lots; lot++) {
            add(tellings, "lot", lot, 6);
            add(tellings, "sale", lot, 6);
            add(tellings, "ranked", lot, 3);
        }
        for (int bid = 0; bid < bids; bid++) {
            add(tellings, "bidOf", bid, 7);
            tellings.add(new Call("fate", bid));
        }
        for (int bidder = 0; bidder < bidders; bidder++) {
            add(tellings, "bidder", bidder, 4);
        }
        for (int seller = 0; seller < 5; seller++) {
            add(tellings, "seller", seller, 4);
        }
        add(tellings, "account", -1, 7);
        for (int amount : new int[] {0, 1, 7, 23, 52, 98, 99, 100, 108, 999999, 1000000, 2000000}) {
            add(tellings, "valid", amount, 3);
        }
        return tellings;
    }

    private static void add(List<Call> tellings, String name, int of, int whats) {
        for (int what = 0; what < whats; what++) {
            tellings.add(of < 0 ? new Call(name, what) : new Call(name, of, what));
        }
    }
}
