/** The boundaries of 'Bids' and of the promises 11 and 12. */
public final class EdgesOfBidsTest {
    private static final String ONE = """
            addLot 0 10 0 = 0
            addBidder 2000000 = 0
            """;

    public static void main(String[] args) {
        ranges();
        order();
        sixtyBids();
        otherBidsTakeRoom();
        late();
        withdrawn();
        Script.end("EdgesOfBidsTest");
    }

    private static void ranges() {
        Script.range("Promise 11: `amount`: 1 to 1000000", 1, 1000000, ONE + """
                bid 0 0 # 5 6 = 0
                bidOf 0 2 = #
                bidOf 0 3 = 5
                bidOf 0 4 = 6
                """, ONE + "bid 0 0 # 5 6 = BAD_VALUE\n count 2 = 0");
        Script.each("Promise 11: `amount`: 1 to 1000000 [not 0]", "0 -1", ONE + "bid 0 0 # 5 0 = BAD_VALUE");
        Script.range("Promise 11: `postmark`: 0 to 100000", 0, 100000, ONE + """
                bid 0 0 21 # 6 = 0
                bidOf 0 2 = 21
                bidOf 0 3 = #
                bidOf 0 4 = 6
                """, ONE + "bid 0 0 21 # 6 = BAD_VALUE\n count 2 = 0");
        Script.range("Promise 11: `group`: 0 to 1000000", 0, 1000000, ONE + """
                bid 0 0 21 5 # = 0
                bidOf 0 2 = 21
                bidOf 0 3 = 5
                bidOf 0 4 = #
                """, ONE + "bid 0 0 21 5 # = BAD_VALUE\n count 2 = 0");
        Script.run("Promise 11: `lot`: a lot [a withdrawn one, too]", ONE + """
                withdrawLot 0 true = 1
                bid 0 0 21 5 0 = 0
                fate 0 = 3
                """);
    }

    private static void order() {
        Script.each("Promise 11: UNKNOWN; BAD_VALUE [in this order]", "-1 1", ONE + """
                bid # 0 0 5 6 = UNKNOWN
                bid 0 # 0 5 6 = UNKNOWN
                bid # 0 21 100001 6 = UNKNOWN
                bid 0 # 21 100001 6 = UNKNOWN
                bid # 0 21 5 -1 = UNKNOWN
                bid 0 # 21 5 -1 = UNKNOWN
                bid # # 21 5 6 = UNKNOWN
                """);
        Script.run("Promise 11: UNKNOWN; BAD_VALUE; FULL [in this order]", ONE + """
                bid 0 0 21 5 6 = 0 ... 59
                bid 1 0 21 5 6 = UNKNOWN
                bid 0 1 21 5 6 = UNKNOWN
                bid 1 0 0 5 6 = UNKNOWN
                bid 0 1 0 5 6 = UNKNOWN
                bid 0 0 0 5 6 = BAD_VALUE
                bid 0 0 1000001 5 6 = BAD_VALUE
                bid 0 0 21 -1 6 = BAD_VALUE
                bid 0 0 21 100001 6 = BAD_VALUE
                bid 0 0 21 5 -1 = BAD_VALUE
                bid 0 0 21 5 1000001 = BAD_VALUE
                bid 0 0 1 0 0 = FULL
                bid 0 0 1000000 100000 1000000 = FULL
                """);
    }

    private static void sixtyBids() {
        Script.run("Promise 11: Returns its number; FULL if there are 60 bids", ONE + """
                bid 0 0 21 5 6 = 0 ... 57
                bid 0 0 22 5 6 = 58
                count 2 = 59
                bid 0 0 23 5 6 = 59
                count 2 = 60
                bid 0 0 24 5 6 = FULL
                count 2 = 60
                bidOf 59 2 = 23
                bidOf 60 2 = UNKNOWN
                undo = 3
                bid 0 0 25 5 6 = 59
                bidOf 59 2 = 25
                bid 0 0 25 5 6 = FULL
                """);
    }

    private static void otherBidsTakeRoom() {
        Script.run("Promise 11: FULL if there are 60 bids [also withdrawn ones]", ONE + """
                bid 0 0 21 5 6 = 0 ... 59
                withdrawBid 0 = 0
                withdrawBid 59 = 0
                bid 0 0 21 5 6 = FULL
                count 2 = 60
                """);
        Script.run("Promise 11: FULL if there are 60 bids [also late ones]", ONE + """
                bid 0 0 21 50001 6 = 0 ... 59
                bid 0 0 21 5 6 = FULL
                count 2 = 60
                """);
        Script.run("Bids: numbered from 0 in the order in which they arrived [of several bidders and lots]", ONE + """
                addLot 0 10 0 = 1
                addBidder 90 = 1
                bid 1 1 21 9 0 = 0
                bid 0 1 22 8 0 = 1
                bid 1 0 23 7 0 = 2
                bid 0 0 24 6 0 = 3
                bidOf 0 2 = 21
                bidOf 1 2 = 22
                bidOf 2 2 = 23
                bidOf 3 2 = 24
                """);
    }

    private static void late() {
        Script.run("Bids: Bids with a postmark above the deadline are late; they do not count [at first 50000]", ONE + """
                bid 0 0 21 49999 0 = 0
                fate 0 = 0
                count 5 = 0
                bid 0 0 26 50000 0 = 1
                fate 1 = 0
                count 5 = 0
                bid 0 0 31 50001 0 = 2
                fate 2 = 2
                fate 1 = 0
                fate 0 = 6
                count 5 = 1
                sale 0 3 = 1
                sale 0 4 = 1
                """);
        Script.run("Bids: the deadline (0 to 100000) [0]", ONE + """
                set 0 0 = 50000
                bid 0 0 21 0 0 = 0
                fate 0 = 0
                bid 0 0 26 1 0 = 1
                fate 1 = 2
                count 5 = 1
                needed 0 0 0 = 25
                needed 0 0 1 = NONE
                """);
        Script.run("Bids: the deadline (0 to 100000) [1]", ONE + """
                set 0 1 = 50000
                bid 0 0 21 1 0 = 0
                bid 0 0 26 2 0 = 1
                fate 0 = 0
                fate 1 = 2
                """);
        Script.run("Bids: the deadline (0 to 100000) [100000]", ONE + """
                bid 0 0 21 100000 0 = 0
                fate 0 = 2
                set 0 100000 = 50000
                fate 0 = 0
                count 5 = 0
                needed 0 0 100000 = 25
                set 0 99999 = 100000
                fate 0 = 2
                count 5 = 1
                needed 0 0 100000 = NONE
                """);
        Script.run("Bids: Bids with a postmark above the deadline are late [by the deadline as it is now]", ONE + """
                bid 0 0 21 60 0 = 0
                set 0 59 = 50000
                fate 0 = 2
                set 0 60 = 59
                fate 0 = 0
                set 0 61 = 60
                fate 0 = 0
                undo = 4-1
                undo = 2
                fate 0 = 2
                """);
    }

    private static void withdrawn() {
        Script.run("Promise 12: Returns its lot; NOT_POSSIBLE if it is withdrawn already", ONE + """
                addLot 0 10 0 = 1
                bid 0 1 21 5 0 = 0
                bid 0 0 21 5 0 = 1
                withdrawBid 0 = 1
                bidOf 0 5 = 1
                bidOf 1 5 = 0
                withdrawBid 0 = NOT_POSSIBLE
                bidOf 0 5 = 1
                withdrawBid 1 = 0
                withdrawBid 1 = NOT_POSSIBLE
                count 6 = 2
                undo = 3
                withdrawBid 1 = 0
                """);
        Script.run("Promise 12: Withdraws a bid [a late one, and one for a withdrawn lot, too]", ONE + """
                bid 0 0 21 50001 0 = 0
                bid 0 0 21 5 0 = 1
                withdrawBid 0 = 0
                withdrawLot 0 true = 1
                withdrawBid 1 = 0
                count 5 = 1
                count 6 = 2
                """);
        Script.run("Bids: Bids can be withdrawn; these do not count", ONE + """
                addBidder 100 = 1
                bid 0 0 41 5 0 = 0
                bid 1 0 31 5 0 = 1
                sale 0 0 = 0
                sale 0 1 = 35
                withdrawBid 1 = 0
                sale 0 1 = 10
                sale 0 3 = 1
                withdrawBid 0 = 0
                sale 0 2 = 1
                sale 0 3 = 0
                ranked 0 0 = NONE
                undo = 3
                undo = 2
                sale 0 1 = 35
                """);
    }
}
