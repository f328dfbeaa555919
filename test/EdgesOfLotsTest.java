/** The boundaries of 'Lots' and 'Bidders' and of the promises 1 and 5 to 10. */
public final class EdgesOfLotsTest {
    private static final String LOT = "addLot 1 7 9 = 0\n";
    private static final String LOTS = "addLot 1 7 9 = 0 ... 19\n";
    private static final String BIDDER = "addBidder 70 = 0\n";

    public static void main(String[] args) {
        newObject();
        rangesOfALot();
        twentyLots();
        askingPrice();
        reserves();
        withdrawnLots();
        bidders();
        limits();
        settings();
        Script.end("EdgesOfLotsTest");
    }

    private static void newObject() {
        Script.each("Promise 1: Creates an auction without lots and bidders [counts]", "0 1 2 3 4 5 6 12 13",
                "count # = 0");
        Script.each("Promise 1: Creates an auction without lots and bidders [sellers]", "0 1 2 3 4",
                "seller # 0 = 0\n seller # 1 = 0\n seller # 2 = 0\n seller # 3 = 0");
        Script.each("Promise 1: Creates an auction without lots and bidders [accounts]", "0 1 2 3 4 5 6", "account # = 0");
        Script.run("Promise 1: Creates an auction without lots and bidders", """
                lot 0 0 = UNKNOWN
                bidder 0 0 = UNKNOWN
                bidOf 0 0 = UNKNOWN
                addBidder 5 = 0
                bid 0 0 5 5 0 = UNKNOWN
                needed 0 0 5 = UNKNOWN
                letter 0 5 = -100
                addLot 0 0 0 = 0
                """);
        Script.run("Steps, Bids and Money: what is so at first", """
                count 7 = 1
                count 8 = 50000
                count 9 = 150
                count 10 = 100
                count 11 = 2
                """);
    }

    private static void rangesOfALot() {
        Script.range("Promise 5: `seller`: 0 to 4", 0, 4, """
                addLot # 7 9 = 0
                lot 0 0 = #
                seller # 0 = 1
                count 0 = 1
                """, "addLot # 7 9 = UNKNOWN\n count 0 = 0");
        Script.range("Promise 5: `start`: 0 to 1000000", 0, 1000000, """
                addLot 1 # 9 = 0
                lot 0 1 = #
                lot 0 2 = 9
                """, "addLot 1 # 9 = BAD_VALUE\n count 0 = 0");
        Script.range("Promise 5: `reserve`: 0 to 1000000", 0, 1000000, """
                addLot 1 7 # = 0
                lot 0 2 = #
                lot 0 1 = 7
                """, "addLot 1 7 # = BAD_VALUE\n count 0 = 0");
        Script.each("Promise 5: UNKNOWN for the seller; BAD_VALUE [in this order]", "-1 5", """
                addLot # -1 9 = UNKNOWN
                addLot # 7 1000001 = UNKNOWN
                addLot # 1000001 -1 = UNKNOWN
                """);
    }

    private static void twentyLots() {
        Script.run("Promise 5: FULL if there are 20 lots", """
                addLot 1 7 9 = 0 ... 17
                addLot 1 7 9 = 18
                addLot 4 8 10 = 19
                count 0 = 20
                addLot 1 7 9 = FULL
                count 0 = 20
                lot 19 0 = 4
                lot 19 1 = 8
                lot 19 2 = 10
                lot 20 0 = UNKNOWN
                """);
        Script.run("Promise 5: FULL if there are 20 lots [also withdrawn ones]", LOTS + """
                withdrawLot 3 true = 1
                addLot 1 7 9 = FULL
                """);
        Script.run("Promise 5: UNKNOWN for the seller; BAD_VALUE; FULL [in this order]", LOTS + """
                addLot 5 7 9 = UNKNOWN
                addLot -1 -1 9 = UNKNOWN
                addLot 1 -1 9 = BAD_VALUE
                addLot 1 1000001 9 = BAD_VALUE
                addLot 1 7 -1 = BAD_VALUE
                addLot 1 7 1000001 = BAD_VALUE
                addLot 4 1000000 1000000 = FULL
                """);
        Script.run("Lots: up to 20 lots, numbered from 0 [one that was undone leaves its number]", LOTS + """
                undo = 3
                lot 19 0 = UNKNOWN
                addLot 2 3 4 = 19
                addLot 2 3 4 = FULL
                """);
    }

    private static void askingPrice() {
        Script.each("Lots: Its asking price is the ceiling of the greater one of start and reserve [the start]", "0 10 11",
                "addLot 0 11 # = 0\n lot 0 4 = 15");
        Script.each("Lots: Its asking price is the ceiling of the greater one of start and reserve [the reserve]",
                "0 30 31", "addLot 0 # 31 = 0\n lot 0 4 = 35");
        Script.run("Lots: Its asking price is the ceiling of the greater one of start and reserve", """
                addLot 0 0 0 = 0
                addLot 0 1 0 = 1
                addLot 0 0 1 = 2
                addLot 0 9 10 = 3
                addLot 0 10 10 = 4
                addLot 0 11 10 = 5
                addLot 0 10 11 = 6
                addLot 0 999996 1000000 = 7
                lot 0 4 = 0
                lot 1 4 = 5
                lot 2 4 = 5
                lot 3 4 = 10
                lot 4 4 = 10
                lot 5 4 = 15
                lot 6 4 = 15
                lot 7 4 = 1000000
                setBand 0 3 = 1
                lot 7 4 = 1000002
                """);
        Script.run("Lots: Its asking price [of a withdrawn lot, too]", LOT + """
                withdrawLot 0 true = 1
                lot 0 4 = 10
                """);
    }

    private static void reserves() {
        Script.range("Promise 6: `reserve`: 0 to 1000000", 0, 1000000, LOT + """
                setReserve 0 # = 9
                lot 0 2 = #
                setReserve 0 5 = #
                """, LOT + "setReserve 0 # = BAD_VALUE\n lot 0 2 = 9");
        Script.each("Promise 6: Returns the previous reserve; UNKNOWN; BAD_VALUE [in this order]", "-1 1", LOT + """
                setReserve # -1 = UNKNOWN
                setReserve # 1000001 = UNKNOWN
                """);
        Script.run("Promise 6: Returns the previous reserve [it stays]", LOT + """
                setReserve 0 9 = 9
                count 12 = 2
                setReserve 0 9 = 9
                count 12 = 3
                """);
        Script.run("Promise 6: `lot`: a lot [a withdrawn one, too]", LOT + LOT.replace("= 0", "= 1") + """
                withdrawLot 1 true = 1
                setReserve 1 50 = 9
                lot 1 2 = 50
                lot 0 2 = 9
                """);
    }

    private static void withdrawnLots() {
        Script.run("Promise 7: NOT_POSSIBLE if it is so already", LOT + """
                withdrawLot 0 false = NOT_POSSIBLE
                lot 0 3 = 0
                withdrawLot 0 true = 1
                lot 0 3 = 1
                withdrawLot 0 true = NOT_POSSIBLE
                lot 0 3 = 1
                withdrawLot 0 false = 0
                lot 0 3 = 0
                withdrawLot 0 false = NOT_POSSIBLE
                withdrawLot 0 true = 1
                """);
        Script.run("Promise 7: Returns the number of withdrawn lots then [none to one and back]", LOTS + """
                count 4 = 0
                withdrawLot 19 true = 1
                count 4 = 1
                withdrawLot 19 false = 0
                count 4 = 0
                """);
        StringBuilder all = new StringBuilder(LOTS);
        for (int lot = 0; lot < 20; lot++) {
            all.append("withdrawLot ").append(lot).append(" true = ").append(lot + 1).append('\n');
        }
        Script.run("Promise 7: Returns the number of withdrawn lots then [all]", all + """
                count 4 = 20
                withdrawLot 7 false = 19
                withdrawLot 7 true = 20
                withdrawLot 20 true = UNKNOWN
                """);
        Script.each("Promise 7: UNKNOWN; NOT_POSSIBLE", "-1 1 LEAST MOST", LOT + """
                withdrawLot # true = UNKNOWN
                withdrawLot # false = UNKNOWN
                """);
    }

    private static void bidders() {
        Script.range("Promise 8: `limit`: 0 to 10000000", 0, 10000000, """
                addBidder # = 0
                bidder 0 0 = #
                bidder 0 1 = #
                count 1 = 1
                """, "addBidder # = BAD_VALUE\n count 1 = 0");
        Script.run("Promise 8: FULL if there are 8 bidders", """
                addBidder 7 = 0 ... 5
                addBidder 7 = 6
                addBidder 8 = 7
                count 1 = 8
                addBidder 9 = FULL
                count 1 = 8
                bidder 7 0 = 8
                bidder 8 0 = UNKNOWN
                """);
        Script.run("Promise 8: BAD_VALUE; FULL if there are 8 bidders [in this order]", """
                addBidder 7 = 0 ... 7
                addBidder -1 = BAD_VALUE
                addBidder 10000001 = BAD_VALUE
                addBidder 10000000 = FULL
                undo = 3
                addBidder 10000000 = 7
                addBidder 0 = FULL
                """);
    }

    private static void limits() {
        Script.range("Promise 9: `limit`: 0 to 10000000", 0, 10000000, BIDDER + """
                setLimit 0 # = 70
                bidder 0 0 = #
                setLimit 0 5 = #
                """, BIDDER + "setLimit 0 # = BAD_VALUE\n bidder 0 0 = 70");
        Script.each("Promise 9: Returns the previous limit; UNKNOWN; BAD_VALUE [in this order]", "-1 1", BIDDER + """
                setLimit # -1 = UNKNOWN
                setLimit # 10000001 = UNKNOWN
                """);
        Script.run("Promise 9: Returns the previous limit [it stays]", BIDDER + """
                setLimit 0 70 = 70
                count 12 = 2
                """);
        Script.run("Promise 9: Sets the limit of a bidder [not of another]", BIDDER + """
                addBidder 71 = 1
                addBidder 72 = 2
                setLimit 1 5 = 71
                bidder 0 0 = 70
                bidder 1 0 = 5
                bidder 2 0 = 72
                """);
    }

    private static void settings() {
        setting(0, 100000, 50000);
        setting(1, 500, 150);
        setting(2, 500, 100);
        setting(3, 1000, 2);
        Script.each("Promise 10: 0 for the deadline, 1 for the premium rate, 2 for the commission rate, 3 for the fee",
                "-1 4 LEAST MOST", """
                set # 5 = UNKNOWN
                set # -1 = UNKNOWN
                set # 100001 = UNKNOWN
                """);
        Script.run("Promise 10: Sets a setting [not another]", """
                set 0 11 = 50000
                set 1 12 = 150
                set 2 13 = 100
                set 3 14 = 2
                count 8 = 11
                count 9 = 12
                count 10 = 13
                count 11 = 14
                """);
    }

    private static void setting(int what, int most, int first) {
        String words = "WHAT = FIRST\n set WHAT # = FIRST\n count 8+WHAT = #\n set WHAT 5 = #\n count 12 = 2";
        String inside = "count 8+" + words.replace("WHAT", "" + what).replace("FIRST", "" + first);
        String outside = "set " + what + " # = BAD_VALUE\n count 8+" + what + " = " + first;
        Script.range("Promise 10: `value`: in its range [setting " + what + "]", 0, most, inside, outside);
        Script.run("Promise 10: Returns the previous value [setting " + what + " stays]",
                "set " + what + " " + first + " = " + first + "\n count 12 = 1");
    }
}
