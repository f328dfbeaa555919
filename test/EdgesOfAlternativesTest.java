/** The boundaries of what the document says of alternatives: 'Bids', 'Sale' and promise 19. */
public final class EdgesOfAlternativesTest {
    private static final String SOME = """
            addLot 0 10 0 = 0 ... 3
            addBidder 1000 = 0
            addBidder 1000 = 1
            """;

    public static void main(String[] args) {
        groups();
        otherBidders();
        otherLots();
        boughtByAnother();
        notBought();
        boughtBefore();
        freeAgain();
        Script.end("EdgesOfAlternativesTest");
    }

    private static void groups() {
        Script.each("Bids: Bids of a bidder in the same group above 0 are alternatives", "1 2 999999 1000000", SOME + """
                bid 0 0 30 5 # = 0
                bid 0 1 30 5 # = 1
                fate 0 = 0
                fate 1 = 4
                sale 1 2 = 1
                sale 1 3 = 0
                """);
        Script.run("Bids: a group (0 for none)", SOME + """
                bid 0 0 30 5 0 = 0
                bid 0 1 30 5 0 = 1
                fate 0 = 0
                fate 1 = 0
                """);
        Script.each("Bids: in the same group [not in another]", "0 6 8 1000000", SOME + """
                bid 0 0 30 5 7 = 0
                bid 0 1 30 5 # = 1
                fate 0 = 0
                fate 1 = 0
                """);
        Script.each("Bids: in the same group [not in another]", "0 6 8 1000000", SOME + """
                bid 0 0 30 5 # = 0
                bid 0 1 30 5 7 = 1
                fate 0 = 0
                fate 1 = 0
                """);
    }

    private static void otherBidders() {
        Script.run("Bids: Bids of a bidder in the same group [not of two bidders]", SOME + """
                bid 0 0 30 5 7 = 0
                bid 1 1 30 5 7 = 1
                bid 0 1 20 5 7 = 2
                fate 0 = 0
                fate 1 = 0
                fate 2 = 4
                sale 1 1 = 10
                """);
    }

    private static void otherLots() {
        Script.run("Bids: only one of their lots is wanted [of several lots]", SOME + """
                bid 0 0 30 5 7 = 0
                bid 0 1 30 5 7 = 1
                bid 0 2 30 5 7 = 2
                bid 0 3 30 5 7 = 3
                fate 0 = 0
                fate 1 = 4
                fate 2 = 4
                fate 3 = 4
                bid 1 0 60 5 7 = 4
                fate 0 = 7
                fate 1 = 0
                fate 2 = 4
                fate 3 = 4
                """);
        Script.run("Sale: whose bidder has not bought another lot [two alternatives for one lot count both]", SOME + """
                bid 0 0 30 5 7 = 0
                bid 0 0 40 5 7 = 1
                fate 0 = 6
                fate 1 = 0
                withdrawBid 1 = 0
                fate 0 = 0
                """);
        Script.run("Sale: whose bidder has not bought another lot [the later lot's bid arrived first]", SOME + """
                bid 0 3 90 1 7 = 0
                bid 0 2 30 5 7 = 1
                fate 1 = 0
                fate 0 = 4
                """);
    }

    private static void boughtByAnother() {
        Script.run("Sale: by an alternative of the bid [the lot was bought by a bid of no group]", SOME + """
                bid 0 0 30 5 7 = 0
                bid 0 0 40 5 0 = 1
                bid 0 1 30 5 7 = 2
                fate 0 = 6
                fate 1 = 0
                fate 2 = 0
                """);
        Script.run("Sale: by an alternative of the bid [the lot was bought by a bid of another group]", SOME + """
                bid 0 0 30 5 7 = 0
                bid 0 0 40 5 8 = 1
                bid 0 1 30 5 7 = 2
                bid 0 1 25 5 8 = 3
                fate 2 = 0
                fate 3 = 4
                """);
        Script.run("Sale: by an alternative of the bid [the first of two equal ones buys]", SOME + """
                bid 0 0 40 5 0 = 0
                bid 0 0 40 1 7 = 1
                bid 0 1 30 5 7 = 2
                fate 1 = 6
                fate 2 = 0
                """);
        Script.run("Sale: by an alternative of the bid [another bid of the bidder for this lot counts]", SOME + """
                bid 0 0 30 5 7 = 0
                bid 0 1 50 5 7 = 1
                bid 0 1 30 5 0 = 2
                fate 1 = 4
                fate 2 = 0
                sale 1 3 = 1
                """);
    }

    private static void notBought() {
        String second = "bid 0 1 30 5 7 = 1\n fate 1 = ";
        Script.run("Sale: has not bought [another bidder's bid was first]", SOME
                + "bid 0 0 30 5 7 = 0\n" + second + "4\n bid 1 0 35 5 0 = 2\n fate 1 = 0\n fate 0 = 7");
        Script.run("Sale: has not bought [another bidder's postmark was less]", SOME
                + "bid 0 0 30 5 7 = 0\n" + second + "4\n bid 1 0 30 4 0 = 2\n fate 1 = 0\n fate 0 = 7");
        Script.run("Sale: has not bought [the reserve is not reached]", SOME
                + "bid 0 0 30 5 7 = 0\n" + second + "4\n setReserve 0 31 = 0\n fate 1 = 0\n fate 0 = 8\n"
                + "setReserve 0 30 = 31\n fate 1 = 4");
        Script.run("Sale: has not bought [the alternative is withdrawn]", SOME
                + "bid 0 0 30 5 7 = 0\n" + second + "4\n withdrawBid 0 = 0\n fate 1 = 0");
        Script.run("Sale: has not bought [the alternative is late]", SOME
                + "bid 0 0 30 50001 7 = 0\n" + second + "0\n set 0 50001 = 50000\n fate 1 = 4");
        Script.run("Sale: has not bought [the lot of the alternative is withdrawn]", SOME
                + "bid 0 0 30 5 7 = 0\n" + second + "4\n withdrawLot 0 true = 1\n fate 1 = 0\n fate 0 = 3");
        Script.run("Sale: has not bought [the worth of the alternative is too small]", SOME
                + "bid 0 0 9 5 7 = 0\n" + second + "0\n fate 0 = 5\n bid 0 0 10 5 7 = 2\n fate 1 = 4");
    }

    private static void boughtBefore() {
        Script.run("Promise 19: 4 its bidder has bought another lot before by an alternative [not behind]", SOME + """
                bid 0 1 30 5 7 = 0
                bid 0 2 30 5 7 = 1
                bid 0 3 30 5 7 = 2
                fate 0 = 0
                fate 1 = 4
                fate 2 = 4
                withdrawBid 0 = 1
                fate 1 = 0
                fate 2 = 4
                withdrawBid 1 = 2
                fate 2 = 0
                """);
        Script.run("Sale: has not bought another lot by an alternative [of two groups at once]", SOME + """
                bid 0 0 30 5 7 = 0
                bid 0 1 30 5 8 = 1
                bid 0 2 30 5 7 = 2
                bid 0 3 30 5 8 = 3
                fate 0 = 0
                fate 1 = 0
                fate 2 = 4
                fate 3 = 4
                """);
    }

    private static void freeAgain() {
        Script.run("Sale: an alternative that is not wanted any more leaves the lot, and the limit", SOME + """
                setLimit 0 20 = 1000
                bid 0 0 20 5 7 = 0
                bid 1 0 15 5 0 = 1
                bid 0 1 20 5 7 = 2
                bid 1 1 15 5 0 = 3
                sale 0 0 = 0
                sale 0 1 = 20
                sale 1 0 = 1
                sale 1 1 = 10
                sale 1 3 = 1
                sale 1 5 = NONE
                bidder 0 2 = 1
                bidder 1 2 = 1
                """);
    }
}
