/** The boundaries of the promises 17 to 19: what is asked, and which reason is the first one that applies. */
public final class EdgesOfFateTest {
    private static final String SOME = """
            addLot 0 10 0 = 0
            addLot 0 20 0 = 1
            addBidder 1000 = 0
            addBidder 1000 = 1
            """;

    public static void main(String[] args) {
        propertiesOfASale();
        placesOfARanking();
        eightBidders();
        eachReason();
        withdrawnFirst();
        lateSecond();
        withdrawnLotThird();
        alternativeFourth();
        worthFifth();
        otherBidSixth();
        notFirst();
        belowReserve();
        Script.end("EdgesOfFateTest");
    }

    private static void propertiesOfASale() {
        Script.run("Promise 17: 0 for its buyer, 1 for its price, 2 for its state, 3, 4, 5", SOME + """
                bid 1 0 44 5 0 = 0
                bid 0 0 31 5 0 = 1
                sale 0 0 = 1
                sale 0 1 = 35
                sale 0 2 = 0
                sale 0 3 = 2
                sale 0 4 = 0
                sale 0 5 = 1
                sale 0 6 = BAD_VALUE
                sale 0 -1 = BAD_VALUE
                sale 1 0 = NONE
                sale 1 1 = 0
                sale 1 2 = 1
                sale 1 3 = 0
                sale 1 4 = NONE
                sale 1 5 = NONE
                """);
        Script.each("Promise 17: UNKNOWN; BAD_VALUE [in this order]", "-1 6 LEAST MOST", SOME + """
                sale 2 # = UNKNOWN
                sale -1 # = UNKNOWN
                sale 1 # = BAD_VALUE
                withdrawLot 1 true = 1
                sale 1 # = BAD_VALUE
                """);
        Script.run("Promise 17: 5 for the second one (NONE if there is none) [one bid alone]", SOME + """
                bid 1 0 44 5 0 = 0
                sale 0 4 = 0
                sale 0 5 = NONE
                sale 0 3 = 1
                bid 1 0 43 5 0 = 1
                sale 0 5 = NONE
                sale 0 3 = 1
                bid 0 0 43 5 0 = 2
                sale 0 5 = 2
                sale 0 3 = 2
                """);
        Script.run("Promise 17: 0 for its buyer, 4 for the first bid [the numbers 0 are no errors]", SOME + """
                bid 0 0 44 5 0 = 0
                sale 0 0 = 0
                sale 0 4 = 0
                ranked 0 0 = 0
                """);
    }

    private static void placesOfARanking() {
        String bids = SOME + "bid 1 0 44 5 0 = 0\n bid 0 0 31 5 0 = 1\n";
        Script.each("Promise 18: BAD_VALUE if place is negative", "-1 -2 LEAST", bids + """
                ranked 0 # = BAD_VALUE
                ranked 1 # = BAD_VALUE
                ranked 2 # = UNKNOWN
                ranked -1 # = UNKNOWN
                withdrawLot 0 true = 1
                ranked 0 # = BAD_VALUE
                """);
        Script.each("Promise 18: NONE if there are not so many", "2 3 7 8 20 60 MOST", bids + """
                ranked 0 # = NONE
                ranked 1 # = NONE
                ranked 2 # = UNKNOWN
                """);
        Script.run("Promise 18: a place among the bids that count for it, in their order, from 0", bids + """
                ranked 0 0 = 0
                ranked 0 1 = 1
                ranked 1 0 = NONE
                withdrawBid 1 = 0
                ranked 0 0 = 0
                ranked 0 1 = NONE
                withdrawBid 0 = 0
                ranked 0 0 = NONE
                """);
        Script.run("Promise 18: a place among the bids that count [also if the reserve is not reached]", bids + """
                setReserve 0 500 = 0
                ranked 0 0 = 0
                ranked 0 1 = 1
                ranked 0 2 = NONE
                """);
        Script.run("Promise 18: the bids that count for it [not those of the lots beside it]", SOME + """
                bid 1 1 44 5 0 = 0
                bid 0 1 31 5 0 = 1
                ranked 0 0 = NONE
                ranked 1 0 = 0
                ranked 1 1 = 1
                """);
    }

    private static void eightBidders() {
        Script.run("Promise 17: 3 for the number of bids that count (at most one of a bidder)", """
                addLot 0 10 0 = 0 ... 19
                addBidder 100 = 0 ... 7
                bid 0 19 17 5 0 = 0
                bid 1 19 21 5 0 = 1
                bid 2 19 26 5 0 = 2
                bid 3 19 31 5 0 = 3
                bid 4 19 36 5 0 = 4
                bid 5 19 41 5 0 = 5
                bid 6 19 46 5 0 = 6
                sale 19 3 = 7
                ranked 19 6 = 0
                ranked 19 7 = NONE
                bid 7 19 51 5 0 = 7
                sale 19 3 = 8
                ranked 19 0 = 7
                ranked 19 6 = 1
                ranked 19 7 = 0
                ranked 19 8 = NONE
                bid 0 19 56 5 0 = 8
                sale 19 3 = 8
                ranked 19 0 = 8
                ranked 19 7 = 1
                ranked 19 8 = NONE
                sale 18 3 = 0
                ranked 18 0 = NONE
                ranked 18 8 = NONE
                """);
        Script.run("Promise 17: 3 for the number of bids that count [sixty bids of one bidder]", """
                addLot 0 10 0 = 0
                addBidder 100 = 0
                bid 0 0 17 5 0 = 0 ... 59
                sale 0 3 = 1
                ranked 0 0 = 0
                ranked 0 1 = NONE
                fate 0 = 0
                fate 1 = 6
                fate 59 = 6
                """);
    }

    private static void eachReason() {
        Script.run("Promise 19: Returns the first reason that applies", SOME + """
                bid 0 0 30 5 7 = 0
                bid 0 1 30 5 7 = 1
                bid 0 1 19 5 0 = 2
                bid 0 1 25 5 0 = 3
                bid 0 1 24 5 0 = 4
                bid 1 1 40 5 0 = 5
                bid 1 1 99 50001 0 = 6
                bid 1 1 99 5 0 = 7
                withdrawBid 7 = 1
                fate 0 = 0
                fate 1 = 4
                fate 2 = 5
                fate 3 = 7
                fate 4 = 6
                fate 5 = 0
                fate 6 = 2
                fate 7 = 1
                setReserve 1 41 = 0
                fate 5 = 8
                fate 3 = 7
                withdrawLot 1 true = 1
                fate 1 = 3
                fate 5 = 3
                """);
    }

    private static void withdrawnFirst() {
        String title = "Promise 19: 1 it is withdrawn [and ";
        Script.run(title + "late]", SOME + "bid 0 0 30 50001 0 = 0\n fate 0 = 2\n withdrawBid 0 = 0\n fate 0 = 1");
        Script.run(title + "its lot is withdrawn]", SOME + """
                bid 0 0 30 5 0 = 0
                withdrawBid 0 = 0
                withdrawLot 0 true = 1
                fate 0 = 1
                withdrawLot 0 false = 0
                fate 0 = 1
                """);
        Script.run(title + "its bidder has bought another lot]", SOME + """
                bid 0 0 30 5 7 = 0
                bid 0 1 30 5 7 = 1
                withdrawBid 1 = 1
                fate 1 = 1
                """);
        Script.run(title + "its worth is too small]", SOME + "bid 0 0 9 5 0 = 0\n withdrawBid 0 = 0\n fate 0 = 1");
        Script.run(title + "another bid of its bidder counts, or it would be second or first]", SOME + """
                bid 0 0 30 5 0 = 0
                bid 0 0 40 5 0 = 1
                bid 1 0 50 5 0 = 2
                withdrawBid 0 = 0
                fate 0 = 1
                withdrawBid 1 = 0
                fate 1 = 1
                withdrawBid 2 = 0
                fate 2 = 1
                """);
    }

    private static void lateSecond() {
        String title = "Promise 19: 2 it is late [and ";
        Script.run(title + "its lot is withdrawn]", SOME + """
                bid 0 0 30 50001 0 = 0
                withdrawLot 0 true = 1
                fate 0 = 2
                """);
        Script.run(title + "its bidder has bought another lot]", SOME + """
                bid 0 0 30 5 7 = 0
                bid 0 1 30 50001 7 = 1
                fate 1 = 2
                """);
        Script.run(title + "its worth is too small]", SOME + "bid 0 0 9 50001 0 = 0\n fate 0 = 2");
        Script.run(title + "another bid of its bidder counts]", SOME + """
                bid 0 0 30 50001 0 = 0
                bid 0 0 40 5 0 = 1
                fate 0 = 2
                fate 1 = 0
                """);
    }

    private static void withdrawnLotThird() {
        String title = "Promise 19: 3 its lot is withdrawn [and ";
        Script.run(title + "its bidder has bought another lot]", SOME + """
                bid 0 0 30 5 7 = 0
                bid 0 1 30 5 7 = 1
                fate 1 = 4
                withdrawLot 1 true = 1
                fate 1 = 3
                """);
        Script.run(title + "its worth is too small, another bid counts, or it is first or second]", SOME + """
                bid 0 0 9 5 0 = 0
                bid 0 0 30 5 0 = 1
                bid 0 0 40 5 0 = 2
                bid 1 0 50 5 0 = 3
                withdrawLot 0 true = 1
                fate 0 = 3
                fate 1 = 3
                fate 2 = 3
                fate 3 = 3
                """);
    }

    private static void alternativeFourth() {
        String title = "Promise 19: 4 its bidder has bought another lot before by an alternative [and ";
        Script.run(title + "its worth is too small]", SOME + """
                bid 0 0 30 5 7 = 0
                bid 0 1 19 5 7 = 1
                fate 1 = 4
                withdrawBid 0 = 0
                fate 1 = 5
                """);
        Script.run(title + "another bid of its bidder for this lot counts]", SOME + """
                bid 0 0 30 5 7 = 0
                bid 0 1 30 5 7 = 1
                bid 0 1 40 5 0 = 2
                fate 1 = 4
                fate 2 = 0
                withdrawBid 0 = 0
                fate 1 = 6
                """);
    }

    private static void worthFifth() {
        Script.each("Promise 19: 5 its worth is too small", "15 16 20", "addLot 0 # 0 = 0\n addBidder 1000 = 0\n" + """
                addBidder 1000 = 1
                bid 0 0 14 5 0 = 0
                fate 0 = 5
                bid 0 0 30 5 0 = 1
                fate 0 = 5
                bid 1 0 40 5 0 = 2
                fate 0 = 5
                fate 1 = 7
                """);
        Script.run("Promise 19: 5 its worth is too small [at the ceiling of the start it is not]", """
                addLot 0 12 0 = 0
                addBidder 1000 = 0
                bid 0 0 14 5 0 = 0
                fate 0 = 5
                bid 0 0 15 5 0 = 1
                fate 1 = 0
                bid 0 0 16 5 0 = 2
                fate 1 = 0
                fate 2 = 6
                """);
        Script.run("Promise 19: 5 its worth is too small [by what is left of the limit]", SOME + """
                setLimit 0 29 = 1000
                bid 0 0 40 5 0 = 0
                bid 0 1 40 5 0 = 1
                fate 1 = 5
                setLimit 0 30 = 29
                fate 1 = 0
                """);
        Script.run("Promise 19: 5 its worth is too small [a reserve makes none too small]", SOME + """
                setReserve 0 500 = 0
                bid 0 0 10 5 0 = 0
                fate 0 = 8
                bid 0 0 9 5 0 = 1
                fate 1 = 5
                """);
    }

    private static void otherBidSixth() {
        Script.run("Promise 19: 6 another bid of its bidder for this lot counts [greater, equal, less]", SOME + """
                bid 0 0 30 5 0 = 0
                bid 0 0 29 5 0 = 1
                bid 0 0 34 5 0 = 2
                fate 0 = 0
                fate 1 = 6
                fate 2 = 6
                bid 0 0 35 9 0 = 3
                fate 0 = 6
                fate 3 = 0
                """);
        Script.run("Promise 19: 6 another bid of its bidder for this lot counts [that is not the first one]", SOME + """
                bid 0 0 30 5 0 = 0
                bid 0 0 29 5 0 = 1
                bid 1 0 40 5 0 = 2
                fate 0 = 7
                fate 1 = 6
                """);
        Script.run("Promise 19: 6 another bid of its bidder for this lot counts [not for another lot]", SOME + """
                bid 0 0 30 5 0 = 0
                bid 0 1 40 5 0 = 1
                fate 0 = 0
                fate 1 = 0
                """);
        Script.run("Promise 19: 6 another bid of its bidder for this lot counts [the reserve is not reached]", SOME + """
                setReserve 0 500 = 0
                bid 0 0 30 5 0 = 0
                bid 0 0 40 5 0 = 1
                fate 0 = 6
                fate 1 = 8
                """);
    }

    private static void notFirst() {
        Script.run("Promise 19: 7 it is not the first one [second, third, and by each part of the order]", SOME + """
                addBidder 1000 = 2
                bid 0 0 30 5 0 = 0
                bid 1 0 30 5 0 = 1
                bid 2 0 30 5 0 = 2
                fate 0 = 0
                fate 1 = 7
                fate 2 = 7
                bid 2 0 35 9 0 = 3
                fate 0 = 7
                fate 1 = 7
                fate 2 = 6
                fate 3 = 0
                """);
        Script.run("Promise 19: 7 it is not the first one [also if the reserve is not reached]", SOME + """
                setReserve 0 31 = 0
                bid 0 0 30 5 0 = 0
                bid 1 0 30 5 0 = 1
                fate 0 = 8
                fate 1 = 7
                """);
    }

    private static void belowReserve() {
        Script.each("Promise 19: 8 it is the first one, but the reserve is not reached", "31 34 35 1000000", SOME + """
                setReserve 0 # = 0
                bid 0 0 34 5 0 = 0
                fate 0 = 8
                """);
        Script.each("Promise 19: 0 if it buys the lot [the reserve is reached]", "0 29 30", SOME + """
                setReserve 0 # = 0
                bid 0 0 34 5 0 = 0
                fate 0 = 0
                """);
    }
}
