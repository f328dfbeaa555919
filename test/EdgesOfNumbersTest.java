import java.util.List;

/** "UNKNOWN: There is no such lot, bidder, bid, seller or setting": in the empty, the begun and the full object. */
public final class EdgesOfNumbersTest {
    private static final List<String> CALLS_OF_A_LOT = List.of("setReserve # 5", "withdrawLot # true", "bid 0 # 5 5 0",
            "sale # 0", "ranked # 0", "needed 0 # 5", "lot # 0");
    private static final List<String> CALLS_OF_A_BIDDER = List.of("setLimit # 5", "bid # 0 5 5 0", "letter # 5",
            "needed # 0 5", "bidder # 0");
    private static final List<String> CALLS_OF_A_BID = List.of("withdrawBid #", "fate #", "bidOf # 0");
    private static final String NONE_SUCH = "-1 LEAST MOST";

    public static void main(String[] args) {
        for (String call : CALLS_OF_A_LOT) {
            String title = "Errors: There is no such lot [" + call + "]";
            unknown(title, "0 1 19 " + NONE_SUCH, "addBidder 9 = 0", call);
            unknown(title, "1 2 " + NONE_SUCH, "addBidder 9 = 0\n addLot 0 5 0 = 0", call);
            unknown(title, "19 20 " + NONE_SUCH, "addBidder 9 = 0\n addLot 0 5 0 = 0 ... 18", call);
            unknown(title, "20 21 " + NONE_SUCH, "addBidder 9 = 0\n addLot 0 5 0 = 0 ... 19", call);
            unknown(title, "2 3", "addBidder 9 = 0\n addLot 0 5 0 = 0 ... 2\n undo = 3", call);
        }
        for (String call : CALLS_OF_A_BIDDER) {
            String title = "Errors: There is no such bidder [" + call + "]";
            unknown(title, "0 1 7 " + NONE_SUCH, "addLot 0 5 0 = 0\n say 0=5", call);
            unknown(title, "1 2 " + NONE_SUCH, "addLot 0 5 0 = 0\n say 0=5\n addBidder 9 = 0", call);
            unknown(title, "7 8 " + NONE_SUCH, "addLot 0 5 0 = 0\n say 0=5\n addBidder 9 = 0 ... 6", call);
            unknown(title, "8 9 " + NONE_SUCH, "addLot 0 5 0 = 0\n say 0=5\n addBidder 9 = 0 ... 7", call);
            unknown(title, "2 3", "addLot 0 5 0 = 0\n say 0=5\n addBidder 9 = 0 ... 2\n undo = 3", call);
        }
        for (String call : CALLS_OF_A_BID) {
            String title = "Errors: There is no such bid [" + call + "]";
            String before = "addLot 0 5 0 = 0\n addBidder 9 = 0\n";
            unknown(title, "0 1 59 " + NONE_SUCH, before, call);
            unknown(title, "1 2 " + NONE_SUCH, before + "bid 0 0 5 5 0 = 0", call);
            unknown(title, "59 60 " + NONE_SUCH, before + "bid 0 0 5 5 0 = 0 ... 58", call);
            unknown(title, "60 61 " + NONE_SUCH, before + "bid 0 0 5 5 0 = 0 ... 59", call);
            unknown(title, "2 3", before + "bid 0 0 5 5 0 = 0 ... 2\n undo = 3", call);
        }
        known();
        Script.end("EdgesOfNumbersTest");
    }

    private static void unknown(String title, String numbers, String before, String call) {
        Script.each(title, numbers, before + "\n" + call + " = UNKNOWN");
    }

    /** The first and the last one of the full object, which are there. */
    private static void known() {
        Script.each("Lots: up to 20 lots, numbered from 0", "0 1 18 19", """
                addBidder 100 = 0
                addLot 3 7 9 = 0 ... 19
                lot # 0 = 3
                setReserve # 12 = 9
                lot # 2 = 12
                needed 0 # 5 = 15
                bid 0 # 16 5 0 = 0
                sale # 1 = 15
                ranked # 0 = 0
                bidOf 0 0 = #
                withdrawLot # true = 1
                sale # 2 = 3
                """);
        Script.each("Bidders: up to 8 bidders, numbered from 0", "0 1 6 7", """
                addBidder 100 = 0 ... 7
                addLot 3 7 9 = 0
                setLimit # 60 = 100
                bidder # 0 = 60
                needed # 0 5 = 10
                bid # 0 16 5 0 = 0
                sale 0 0 = #
                bidOf 0 1 = #
                bidder # 2 = 1
                say 0=21
                letter # 7 = 1
                bidOf 1 1 = #
                """);
        Script.each("Bids: up to 60 bids, numbered from 0 in the order in which they arrived", "0 1 58 59", """
                addBidder 100 = 0
                addLot 3 7 9 = 0
                addLot 3 7 9 = 1
                bid 0 0 21 6 3 = 0 ... #-1
                bid 0 1 22 7 8 = #
                bid 0 0 21 6 3 = #+1 ... 59
                bidOf # 0 = 1
                bidOf # 1 = 0
                bidOf # 2 = 22
                bidOf # 3 = 7
                bidOf # 4 = 8
                bidOf # 5 = 0
                bidOf # 6 = 20
                fate # = 0
                withdrawBid # = 1
                bidOf # 5 = 1
                fate # = 1
                """);
        Script.each("Promise 24: `seller`: 0 to 4", "0 1 3 4", """
                addLot # 7 9 = 0
                seller # 0 = 1
                seller # 3 = -2
                """);
        Script.each("Promise 24: `seller`: 0 to 4 [nothing else]", "-1 5 LEAST MOST", """
                addLot 4 7 9 = 0
                addLot 0 7 9 = 1
                seller # 0 = NO_VALUE
                seller # 3 = NO_VALUE
                seller # 4 = NO_VALUE
                """);
    }
}
