/** The boundaries of the promises 21, 22 and 26. */
public final class EdgesOfToldTest {
    private static final String SOME = """
            addLot 3 12 33 = 0
            addLot 2 10 0 = 1
            addBidder 1000 = 0
            addBidder 50 = 1
            """;

    public static void main(String[] args) {
        propertiesOfALot();
        bidsForALot();
        propertiesOfABid();
        worthInTurn();
        worthOfEachBid();
        countsAndNoCounts();
        countsOfLots();
        countsOfBids();
        countsOfSettings();
        fullCounts();
        Script.end("EdgesOfToldTest");
    }

    private static void propertiesOfALot() {
        Script.run("Promise 21: 0 for its seller, 1 for its start, 2 for its reserve, 3, 4, 5", SOME + """
                lot 0 0 = 3
                lot 0 1 = 12
                lot 0 2 = 33
                lot 0 3 = 0
                lot 0 4 = 35
                lot 0 5 = 0
                lot 1 0 = 2
                lot 1 1 = 10
                lot 1 2 = 0
                lot 1 4 = 10
                """);
        Script.each("Promise 21: Returns the property; UNKNOWN; BAD_VALUE [in this order]", "-1 6 LEAST MOST", SOME + """
                lot 0 # = BAD_VALUE
                lot 1 # = BAD_VALUE
                lot 2 # = UNKNOWN
                lot -1 # = UNKNOWN
                """);
        Script.run("Promise 21: 3 for whether it is withdrawn (1, otherwise 0)", SOME + """
                withdrawLot 1 true = 1
                lot 0 3 = 0
                lot 1 3 = 1
                withdrawLot 1 false = 0
                lot 1 3 = 0
                withdrawLot 0 true = 1
                lot 0 3 = 1
                lot 1 3 = 0
                """);
    }

    private static void bidsForALot() {
        Script.run("Promise 21: 5 for the number of all bids for it (also withdrawn and late ones)", SOME + """
                lot 0 5 = 0
                bid 0 0 1 5 0 = 0
                lot 0 5 = 1
                lot 1 5 = 0
                bid 0 0 50 50001 0 = 1
                bid 0 0 50 5 0 = 2
                bid 1 0 50 5 0 = 3
                withdrawBid 3 = 0
                lot 0 5 = 4
                withdrawBid 0 = 0
                lot 0 5 = 4
                bid 1 1 50 5 0 = 4
                lot 0 5 = 4
                lot 1 5 = 1
                withdrawLot 0 true = 1
                lot 0 5 = 4
                """);
        Script.run("Promise 21: 5 for the number of all bids for it [sixty]", SOME + """
                bid 0 1 20 5 0 = 0 ... 59
                lot 1 5 = 60
                lot 0 5 = 0
                """);
    }

    private static void propertiesOfABid() {
        Script.run("Promise 22: 0 for its lot, 1 for its bidder, 2 for its amount, 3, 4, 5, 6", SOME + """
                bid 0 0 36 7 9 = 0
                bid 1 0 43 8 0 = 1
                bidOf 0 0 = 0
                bidOf 0 1 = 0
                bidOf 0 2 = 36
                bidOf 0 3 = 7
                bidOf 0 4 = 9
                bidOf 0 5 = 0
                bidOf 0 6 = 35
                bidOf 1 0 = 0
                bidOf 1 1 = 1
                bidOf 1 2 = 43
                bidOf 1 3 = 8
                bidOf 1 4 = 0
                bidOf 1 5 = 0
                bidOf 1 6 = 40
                withdrawBid 0 = 0
                bidOf 0 5 = 1
                bidOf 1 5 = 0
                """);
        Script.each("Promise 22: Returns the property; UNKNOWN; BAD_VALUE [in this order]", "-1 7 LEAST MOST", SOME + """
                bid 0 0 36 7 9 = 0
                bidOf 0 # = BAD_VALUE
                bidOf 1 # = UNKNOWN
                bidOf -1 # = UNKNOWN
                """);
    }

    private static void worthInTurn() {
        Script.run("Promise 22: 6 for its worth when its lot is sold (by what is left of the limit then)", """
                addLot 0 10 0 = 0
                addLot 0 10 0 = 1
                addLot 0 10 0 = 2
                addBidder 30 = 0
                bid 0 1 99 5 0 = 0
                bid 0 0 99 5 0 = 1
                bid 0 2 99 5 0 = 2
                bidOf 1 6 = 30
                bidOf 0 6 = 20
                bidOf 2 6 = 10
                bidder 0 1 = 0
                setReserve 1 20 = 0
                bidOf 0 6 = 20
                bidOf 2 6 = 0
                setReserve 1 21 = 20
                bidOf 0 6 = 20
                bidOf 2 6 = 20
                """);
        Script.run("Promise 22: or would be its turn [a withdrawn lot, before and behind others]", """
                addLot 0 10 0 = 0
                addLot 0 10 0 = 1
                addLot 0 10 0 = 2
                addBidder 30 = 0
                bid 0 0 99 5 0 = 0
                bid 0 1 99 5 0 = 1
                bid 0 2 99 5 0 = 2
                withdrawLot 1 true = 1
                bidOf 0 6 = 30
                bidOf 1 6 = 20
                bidOf 2 6 = 20
                withdrawLot 0 true = 2
                bidOf 0 6 = 30
                bidOf 1 6 = 30
                bidOf 2 6 = 30
                withdrawLot 2 true = 3
                bidOf 2 6 = 30
                """);
    }

    private static void worthOfEachBid() {
        Script.run("Promise 22: told for each bid, also withdrawn and late ones", """
                addLot 0 10 0 = 0
                addLot 0 10 0 = 1
                addBidder 30 = 0
                bid 0 0 30 5 7 = 0
                bid 0 1 17 50001 0 = 1
                bid 0 1 18 5 0 = 2
                withdrawBid 2 = 1
                bid 0 1 99 5 7 = 3
                bid 0 1 9 5 0 = 4
                bid 0 1 15 5 0 = 5
                bid 0 1 14 5 0 = 6
                bidOf 1 6 = 15
                bidOf 2 6 = 15
                bidOf 3 6 = 20
                bidOf 4 6 = 5
                bidOf 5 6 = 15
                bidOf 6 6 = 10
                fate 1 = 2
                fate 2 = 1
                fate 3 = 4
                fate 4 = 5
                fate 5 = 0
                fate 6 = 6
                """);
    }

    private static void countsAndNoCounts() {
        Script.each("Promise 26: Returns the number; BAD_VALUE", "-1 14 LEAST MOST", "count # = BAD_VALUE\n" + SOME
                + "count # = BAD_VALUE");
        Script.run("Promise 26: 12 for the states in the history, 13 for the length of the text", """
                count 12 = 0
                set 3 3 = 2
                count 12 = 1
                set 3 4 = 3
                set 3 5 = 4
                count 12 = 3
                set 3 6 = 5
                count 12 = 4
                set 3 7 = 6
                count 12 = 4
                undo = 3
                count 12 = 3
                count 13 = 0
                type 'x' = 1
                count 13 = 1
                type 'x' = 2 ... 80
                count 13 = 80
                clearText = 80
                count 13 = 0
                """);
    }

    private static void countsOfLots() {
        Script.run("Promise 26: 3 for lots that are sold, 4 for withdrawn lots", """
                addLot 0 10 0 = 0
                addLot 0 10 30 = 1
                addLot 0 10 0 = 2
                addLot 0 10 0 = 3
                addBidder 1000 = 0
                count 3 = 0
                count 4 = 0
                bid 0 0 20 5 0 = 0
                bid 0 1 20 5 0 = 1
                bid 0 3 20 5 0 = 2
                count 3 = 2
                count 4 = 0
                setReserve 1 20 = 30
                count 3 = 3
                withdrawLot 0 true = 1
                count 3 = 2
                count 4 = 1
                withdrawLot 2 true = 2
                count 3 = 2
                count 4 = 2
                count 0 = 4
                """);
    }

    private static void countsOfBids() {
        Script.run("Promise 26: 2 for bids, 5 for bids that are late, 6 for withdrawn bids", SOME + """
                bid 0 0 40 50000 0 = 0
                bid 0 0 40 50001 0 = 1
                bid 0 0 40 100000 0 = 2
                count 2 = 3
                count 5 = 2
                count 6 = 0
                withdrawBid 0 = 0
                count 2 = 3
                count 5 = 2
                count 6 = 1
                withdrawBid 1 = 0
                count 5 = 2
                count 6 = 2
                withdrawLot 0 true = 1
                count 2 = 3
                count 5 = 2
                count 6 = 2
                set 0 49999 = 50000
                count 5 = 3
                set 0 100000 = 49999
                count 5 = 0
                """);
    }

    private static void countsOfSettings() {
        Script.run("Promise 26: 7 for bands, 8 to 11 for the settings 0 to 3", """
                setBand 9 1 = 2
                count 7 = 2
                set 0 21 = 50000
                count 8 = 21
                count 9 = 150
                count 10 = 100
                count 11 = 2
                set 1 22 = 150
                count 8 = 21
                count 9 = 22
                count 10 = 100
                set 2 23 = 100
                count 9 = 22
                count 10 = 23
                count 11 = 2
                set 3 24 = 2
                count 10 = 23
                count 11 = 24
                removeBand 9 = 1
                count 7 = 1
                """);
    }

    private static void fullCounts() {
        Script.run("Promise 26: the full object", """
                addLot 0 10 0 = 0 ... 19
                addBidder 1000 = 0 ... 7
                bid 7 19 30 5 0 = 0 ... 59
                setBand 10 10 = 2
                setBand 20 10 = 3
                setBand 30 10 = 4
                setBand 40 10 = 5
                setBand 50 10 = 6
                setBand 60 10 = 7
                setBand 70 10 = 8
                count 0 = 20
                count 1 = 8
                count 2 = 60
                count 3 = 1
                count 4 = 0
                count 5 = 0
                count 6 = 0
                count 7 = 8
                count 12 = 4
                bidOf 59 6 = 30
                lot 19 5 = 60
                bidder 7 2 = 1
                """);
    }
}
