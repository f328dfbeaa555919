/** The boundaries of promise 20; what is needed is also bid, and one step less is bid, to see what becomes of it. */
public final class EdgesOfNeededTest {
    private static final String SOME = """
            addLot 0 12 0 = 0
            addBidder 1000 = 0
            addBidder 1000 = 1
            addBidder 1000 = 2
            """;

    public static void main(String[] args) {
        errors();
        asked();
        ties();
        ownBids();
        severalBids();
        limits();
        limitsInTurn();
        zeroIsEnough();
        greatest();
        noneAtAll();
        alternatives();
        boughtByIt();
        Script.end("EdgesOfNeededTest");
    }

    private static void errors() {
        Script.range("Promise 20: `postmark`: 0 to 100000", 0, 100000, SOME + "set 0 100000 = 50000\n needed 0 0 # = 15",
                SOME + "set 0 100000 = 50000\n needed 0 0 # = BAD_VALUE");
        Script.each("Promise 20: UNKNOWN; BAD_VALUE [in this order]", "-1 100001 LEAST MOST", SOME + """
                needed 3 0 # = UNKNOWN
                needed -1 0 # = UNKNOWN
                needed 0 1 # = UNKNOWN
                needed 0 -1 # = UNKNOWN
                needed 0 0 # = BAD_VALUE
                """);
        Script.each("Promise 20: UNKNOWN; BAD_VALUE; NONE [in this order]", "-1 100001", SOME + """
                withdrawLot 0 true = 1
                needed 0 0 # = BAD_VALUE
                needed 3 0 # = UNKNOWN
                needed 0 0 5 = NONE
                bid 0 0 20 5 0 = 0 ... 59
                needed 0 0 # = BAD_VALUE
                needed 0 1 # = UNKNOWN
                needed 0 1 5 = UNKNOWN
                needed 3 0 5 = UNKNOWN
                needed 0 0 5 = NONE
                """);
    }

    private static void asked() {
        String title = "Promise 20: the least amount with which a new bid would buy it [nobody has bid]";
        Script.each(title, "0 12 14 15", SOME + "setReserve 0 # = 0\n needed 0 0 5 = 15");
        Script.each(title, "16 19 20", SOME + "setReserve 0 # = 0\n needed 0 0 5 = 20");
        Script.run(title + " [a valid one]", SOME + """
                setBand 13 100 = 2
                needed 0 0 5 = 13
                setReserve 0 14 = 0
                needed 0 0 5 = 113
                """);
        Script.run("Promise 20: the least amount [bids below the asking price do not matter]", """
                addLot 0 12 42 = 0
                addBidder 1000 = 0
                addBidder 1000 = 1
                bid 1 0 39 5 0 = 0
                needed 0 0 9 = 45
                needed 1 0 9 = 45
                bid 1 0 42 5 0 = 1
                needed 0 0 9 = 45
                bid 1 0 45 5 0 = 2
                needed 0 0 4 = 45
                needed 0 0 5 = 50
                """);
    }

    private static void ties() {
        Script.each("Promise 20: of this postmark [a lesser one wins a tie]", "0 1 6", SOME + """
                bid 1 0 52 7 0 = 0
                needed 0 0 # = 50
                bid 0 0 50 # 0 = 1
                fate 1 = 0
                """);
        Script.each("Promise 20: of this postmark [an equal or greater one does not]", "7 8 50000", SOME + """
                bid 1 0 52 7 0 = 0
                needed 0 0 # = 55
                bid 0 0 54 # 0 = 1
                fate 1 = 7
                bid 0 0 55 # 0 = 2
                fate 2 = 0
                """);
    }

    private static void ownBids() {
        Script.each("Promise 20: the new bid itself, also beside other bids of the bidder", "0 6 7 8", SOME + """
                bid 0 0 52 7 0 = 0
                needed 0 0 # = 55
                bid 0 0 54 # 0 = 1
                fate 1 = 6
                bid 0 0 55 # 0 = 2
                fate 2 = 0
                """);
        Script.run("Promise 20: also beside other bids of the bidder [one of less worth than another's]", SOME + """
                bid 0 0 30 7 0 = 0
                bid 1 0 50 7 0 = 1
                needed 0 0 6 = 50
                needed 0 0 7 = 55
                """);
        Script.run("Promise 20: also beside other bids of the bidder [one as great as another's]", SOME + """
                bid 0 0 50 8 0 = 0
                bid 1 0 50 7 0 = 1
                needed 0 0 6 = 55
                needed 2 0 6 = 50
                needed 1 0 6 = 55
                """);
        Script.run("Promise 20: also beside other bids of the bidder [that do not count]", SOME + """
                bid 0 0 90 5 0 = 0
                withdrawBid 0 = 0
                bid 0 0 90 50001 0 = 1
                needed 0 0 5 = 15
                bid 0 0 14 5 0 = 2
                needed 0 0 5 = 15
                """);
    }

    private static void severalBids() {
        Script.run("Promise 20: of this postmark [several bids are of the greatest worth]", SOME + """
                addBidder 1000 = 3
                bid 1 0 50 9 0 = 0
                bid 2 0 50 7 0 = 1
                bid 3 0 45 2 0 = 2
                needed 0 0 6 = 50
                needed 0 0 7 = 55
                needed 0 0 8 = 55
                needed 0 0 9 = 55
                needed 3 0 6 = 50
                needed 3 0 7 = 55
                needed 2 0 6 = 55
                """);
        Script.run("Promise 20: would buy it [the next one begins a band]", "setBand 51 40 = 2\n" + SOME.replace("12", "10") + """
                bid 1 0 50 7 0 = 0
                needed 0 0 7 = 51
                bid 1 0 51 7 0 = 1
                needed 0 0 7 = 91
                needed 0 0 6 = 51
                """);
    }

    private static void limits() {
        String bids = SOME + "bid 1 0 50 7 0 = 0\n";
        Script.each("Promise 20: the limit of the bidder counts", "55 56 10000000", bids + """
                setLimit 0 # = 1000
                needed 0 0 7 = 55
                bid 0 0 55 7 0 = 1
                fate 1 = 0
                """);
        Script.each("Promise 20: the limit of the bidder counts", "50 51 54", bids + """
                setLimit 0 # = 1000
                needed 0 0 7 = NONE
                needed 0 0 6 = 50
                bid 0 0 1000000 7 0 = 1
                fate 1 = 7
                """);
        Script.each("Promise 20: the limit of the bidder counts", "0 14 49", bids + """
                setLimit 0 # = 1000
                needed 0 0 6 = NONE
                """);
        Script.run("Promise 20: the limit of the bidder counts [not those of the others, but by their worths]", bids + """
                setLimit 1 44 = 1000
                needed 0 0 7 = 45
                needed 0 0 6 = 40
                setLimit 1 11 = 44
                needed 0 0 7 = 15
                """);
        Script.run("Promise 20: whatever it costs [more than one step above]", SOME + """
                bid 1 0 1000 7 0 = 0
                setLimit 0 10000000 = 1000
                needed 0 0 7 = 1005
                """);
    }

    private static void limitsInTurn() {
        Script.run("Promise 20: the limit of the bidder counts [what is left when it is the lot's turn]", """
                addLot 0 10 0 = 0
                addLot 0 10 0 = 1
                addLot 0 10 0 = 2
                addBidder 60 = 0
                bid 0 0 20 5 0 = 0
                bid 0 2 40 5 0 = 1
                bidder 0 1 = 40
                needed 0 1 5 = 10
                setReserve 1 50 = 0
                needed 0 1 5 = 50
                setReserve 1 51 = 50
                needed 0 1 5 = NONE
                setReserve 0 60 = 0
                needed 0 1 5 = 55
                needed 0 0 5 = 60
                setReserve 0 61 = 60
                needed 0 0 5 = NONE
                """);
    }

    private static void zeroIsEnough() {
        String lot = "addLot 0 0 0 = 0\n addBidder # = 0\n addBidder 1000 = 1\n";
        Script.each("Promise 20: Returns the amount, a valid one from 1 to 1000000 [a worth of 0 is enough]", "0 4 5 9",
                lot + """
                needed 0 0 5 = 5
                bid 0 0 5 5 0 = 0
                fate 0 = 0
                """);
        Script.each("Promise 20: Returns the amount, a valid one from 1 to 1000000 [a tie at 0]", "0 4", lot + """
                bid 1 0 1 5 0 = 0
                needed 0 0 4 = 5
                needed 0 0 5 = NONE
                bid 0 0 5 4 0 = 1
                fate 1 = 0
                """);
        Script.each("Promise 20: Returns the amount, a valid one from 1 to 1000000 [a tie at 0]", "5 6", lot + """
                bid 1 0 1 5 0 = 0
                needed 0 0 4 = 5
                needed 0 0 5 = 5
                """);
        Script.each("Promise 20: Returns the amount, a valid one from 1 to 1000000 [the next one above 0]", "1 2 100000",
                "addLot 0 0 0 = 0\n addBidder 0 = 0\n setBand 0 # = 1\n needed 0 0 5 = #");
        Script.run("Promise 20: a valid one from 1 to 1000000 [1]", """
                addLot 0 0 0 = 0
                addBidder 0 = 0
                setBand 1 100000 = 2
                needed 0 0 5 = 1
                setReserve 0 1 = 0
                needed 0 0 5 = NONE
                setLimit 0 1 = 0
                needed 0 0 5 = 1
                """);
    }

    private static void greatest() {
        Script.run("Promise 20: a valid one from 1 to 1000000 [1000000 and no more]", """
                addLot 0 0 0 = 0
                addBidder 10000000 = 0
                addBidder 10000000 = 1
                bid 1 0 999995 5 0 = 0
                needed 0 0 5 = 1000000
                bid 1 0 999999 5 0 = 1
                needed 0 0 5 = 1000000
                bid 1 0 1000000 5 0 = 2
                needed 0 0 4 = 1000000
                needed 0 0 5 = NONE
                needed 1 0 4 = NONE
                """);
        Script.each("Promise 20: a valid one from 1 to 1000000 [the asking price]", "999991 999995", """
                addLot 0 0 # = 0
                addBidder 10000000 = 0
                needed 0 0 5 = 999995
                """);
        Script.each("Promise 20: a valid one from 1 to 1000000 [the asking price]", "999996 1000000", """
                addLot 0 0 # = 0
                addBidder 10000000 = 0
                needed 0 0 5 = 1000000
                setBand 0 3 = 1
                setReserve 0 999999 = #
                needed 0 0 5 = 999999
                setReserve 0 1000000 = 999999
                needed 0 0 5 = NONE
                lot 0 4 = 1000002
                """);
        Script.run("Promise 20: a valid one from 1 to 1000000 [none above 0]", """
                addLot 0 0 0 = 0
                addBidder 10000000 = 0
                setBand 0 100000 = 1
                setBand 1 100000 = 2
                setReserve 0 900002 = 0
                needed 0 0 5 = NONE
                setReserve 0 900001 = 900002
                needed 0 0 5 = 900001
                """);
    }

    private static void noneAtAll() {
        Script.run("Promise 20: NONE if the lot is withdrawn", SOME + """
                needed 0 0 5 = 15
                withdrawLot 0 true = 1
                needed 0 0 5 = NONE
                withdrawLot 0 false = 0
                needed 0 0 5 = 15
                """);
        Script.run("Promise 20: NONE if there are 60 bids", SOME + """
                bid 1 0 20 5 0 = 0 ... 57
                needed 0 0 5 = 25
                bid 1 0 20 5 0 = 58
                needed 0 0 5 = 25
                bid 1 0 20 5 0 = 59
                needed 0 0 5 = NONE
                withdrawBid 59 = 0
                needed 0 0 5 = NONE
                undo = 3
                undo = 2
                needed 0 0 5 = 25
                """);
        Script.run("Promise 20: NONE if there is none [the new bid would be late]", SOME + """
                needed 0 0 49999 = 15
                needed 0 0 50000 = 15
                needed 0 0 50001 = NONE
                needed 0 0 100000 = NONE
                set 0 50001 = 50000
                needed 0 0 50001 = 15
                needed 0 0 50002 = NONE
                """);
    }

    private static void alternatives() {
        Script.each("Promise 20: and in no group", "1 2 7 1000000", SOME + """
                addLot 0 10 0 = 1
                bid 0 0 20 5 # = 0
                bid 0 1 90 5 # = 1
                bid 1 1 30 5 0 = 2
                needed 0 1 5 = 35
                needed 0 1 4 = 30
                withdrawBid 0 = 0
                needed 0 1 5 = 95
                """);
    }

    /** "Tells" alone: asking does not let a bid arrive, and the answer holds until the next act. */
    private static void boughtByIt() {
        Script.run("Promise 20: Tells the least amount [asking changes nothing]", SOME + """
                bid 1 0 50 7 0 = 0
                needed 0 0 7 = 55
                count 2 = 1
                count 12 = 4
                sale 0 0 = 1
                needed 0 0 7 = 55
                lot 0 5 = 1
                """);
        for (int step = 1; step <= 12; step++) {
            String bids = "addLot 0 12 0 = 0\n addBidder 1000 = 0\n addBidder 1000 = 1\n setBand 0 " + step + " = 1\n"
                    + "bid 1 0 47 7 0 = 0\n";
            int worth = 47 / step * step;
            String needed = "needed 0 0 7 = " + (worth + step) + "\n needed 0 0 6 = " + worth + "\n";
            Script.run("Promise 20: the least amount with which it would buy it [step " + step + "]", bids + needed
                    + "bid 0 0 " + (worth + step - 1) + " 7 0 = 1\n fate 1 = 7\n bid 0 0 " + (worth + step)
                    + " 7 0 = 2\n fate 2 = 0");
        }
    }
}
