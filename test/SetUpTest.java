/** Promises 1 to 10: a new object, steps, lots, bidders and settings. */
public final class SetUpTest {
    public static void main(String[] args) {
        promise1();
        promise2();
        promise3();
        promise4();
        promise5();
        promise6();
        promise7();
        promise8();
        promise9();
        promise10();
        Script.end("SetUpTest");
    }

    private static void promise1() {
        Script.run("1: a new object", """
                count 0 = 0
                count 1 = 0
                count 2 = 0
                count 3 = 0
                count 4 = 0
                count 5 = 0
                count 6 = 0
                count 7 = 1
                count 8 = 50000
                count 9 = 150
                count 10 = 100
                count 11 = 2
                count 12 = 0
                count 13 = 0
                valid 7 0 = 5
                valid 7 1 = 10
                valid 5 2 = 10
                undo = NONE
                clearText = 0
                lot 0 0 = UNKNOWN
                sale 0 0 = UNKNOWN
                bidOf 0 0 = UNKNOWN
                fate 0 = UNKNOWN
                bidder 0 0 = UNKNOWN
                seller 0 0 = 0
                seller 4 3 = 0
                account 0 = 0
                account 6 = 0
                """);
    }

    private static void promise2() {
        Script.run("2: setBand", """
                setBand 100 10 = 2
                setBand 100 20 = 2
                valid 139 0 = 120
                setBand 0 3 = 2
                valid 98 0 = 96
                valid 99 2 = 100
                count 12 = 3
                setBand -1 5 = BAD_VALUE
                setBand 1000001 5 = BAD_VALUE
                setBand 0 0 = BAD_VALUE
                setBand 0 100001 = BAD_VALUE
                setBand LEAST MOST = BAD_VALUE
                setBand 1000000 100000 = 3
                valid 1099999 0 = 1000000
                valid 1099999 2 = 1100000
                setBand 1 1 = 4
                setBand 50 1 = 5
                setBand 40 1 = 6
                setBand 30 1 = 7
                setBand 20 1 = 8
                setBand 21 1 = FULL
                setBand 21 0 = BAD_VALUE
                setBand 20 7 = 8
                valid 29 0 = 27
                setBand 0 2 = 8
                undo = 3
                undo = 2
                valid 29 0 = 29
                count 7 = 8
                undo = 1
                count 7 = 7
                """);
    }

    private static void promise3() {
        Script.run("3: removeBand", """
                removeBand 0 = NOT_POSSIBLE
                removeBand 5 = NOT_POSSIBLE
                removeBand -1 = NOT_POSSIBLE
                removeBand MOST = NOT_POSSIBLE
                setBand 10 2 = 2
                setBand 20 3 = 3
                setBand 30 4 = 4
                removeBand 20 = 3
                removeBand 20 = NOT_POSSIBLE
                valid 23 0 = 22
                valid 33 0 = 30
                valid 33 2 = 34
                removeBand 10 = 2
                valid 23 0 = 20
                valid 29 2 = 30
                removeBand 30 = 1
                removeBand 0 = NOT_POSSIBLE
                valid 33 0 = 30
                valid 33 1 = 35
                undo = 3
                undo = 2
                undo = 1
                count 7 = 4
                valid 23 0 = 23
                """);
        Script.run("3: room behind a removed band", """
                setBand 1 1 = 2
                setBand 2 1 = 3
                setBand 3 1 = 4
                setBand 4 1 = 5
                setBand 5 1 = 6
                setBand 6 1 = 7
                setBand 7 1 = 8
                setBand 8 1 = FULL
                removeBand 3 = 7
                setBand 8 1 = 8
                setBand 3 1 = FULL
                """);
    }

    private static void promise4() {
        Script.run("4: valid", """
                valid 0 0 = 0
                valid 0 1 = 0
                valid 0 2 = 5
                valid 4 0 = 0
                valid 4 1 = 5
                valid 4 2 = 5
                valid 5 0 = 5
                valid 5 1 = 5
                valid 5 2 = 10
                valid 2000000 0 = 2000000
                valid 2000000 2 = 2000005
                valid 2000001 0 = BAD_VALUE
                valid -1 0 = BAD_VALUE
                valid 5 3 = BAD_VALUE
                valid 5 -1 = BAD_VALUE
                valid LEAST 0 = BAD_VALUE
                valid MOST MOST = BAD_VALUE
                setBand 12 7 = 2
                valid 11 0 = 10
                valid 11 1 = 12
                valid 10 2 = 12
                valid 12 0 = 12
                valid 12 1 = 12
                valid 12 2 = 19
                valid 18 0 = 12
                valid 18 1 = 19
                setBand 13 100000 = 3
                valid 12 2 = 13
                valid 13 1 = 13
                valid 13 2 = 100013
                valid 100012 0 = 13
                valid 100012 1 = 100013
                setBand 14 1 = 4
                valid 13 2 = 14
                setBand 0 100000 = 4
                valid 11 0 = 0
                valid 11 1 = 12
                valid 1 2 = 12
                removeBand 12 = 3
                valid 12 0 = 0
                valid 12 2 = 13
                """);
        Script.run("4: steps of 100000 from 1000000", """
                setBand 1000000 100000 = 2
                valid 1999999 1 = 2000000
                valid 2000000 2 = 2100000
                valid 999999 1 = 1000000
                valid 999999 2 = 1000000
                """);
        Script.run("4: every band begins with a valid amount", """
                setBand 8 8 = 2
                setBand 4 4 = 3
                setBand 2 2 = 4
                setBand 1 1 = 5
                setBand 0 50 = 5
                valid 0 2 = 1
                valid 1 2 = 2
                valid 3 0 = 2
                valid 3 2 = 4
                valid 7 0 = 4
                valid 7 1 = 8
                valid 15 0 = 8
                valid 15 1 = 16
                """);
    }

    private static void promise5() {
        Script.run("5: addLot", """
                addLot 0 0 0 = 0
                addLot 4 1000000 1000000 = 1
                addLot 5 0 0 = UNKNOWN
                addLot -1 0 0 = UNKNOWN
                addLot 5 -1 0 = UNKNOWN
                addLot 0 -1 0 = BAD_VALUE
                addLot 0 1000001 0 = BAD_VALUE
                addLot 0 0 -1 = BAD_VALUE
                addLot 0 0 1000001 = BAD_VALUE
                addLot MOST LEAST MOST = UNKNOWN
                addLot 2 31 7 = 2
                lot 2 0 = 2
                lot 2 1 = 31
                lot 2 2 = 7
                lot 2 3 = 0
                count 0 = 3
                addLot 1 5 5 = 3 ... 19
                addLot 1 5 5 = FULL
                addLot 5 5 5 = UNKNOWN
                addLot 1 5 -5 = BAD_VALUE
                count 0 = 20
                lot 20 0 = UNKNOWN
                undo = 3
                count 0 = 19
                lot 19 0 = UNKNOWN
                addLot 3 6 7 = 19
                lot 19 0 = 3
                """);
        Script.run("5: a lot in place of one that was withdrawn and undone", """
                addLot 0 1 2 = 0
                withdrawLot 0 true = 1
                undo = 1
                undo = 0
                addLot 1 3 4 = 0
                lot 0 3 = 0
                """);
    }

    private static void promise6() {
        Script.run("6: setReserve", """
                setReserve 0 5 = UNKNOWN
                addLot 0 10 20 = 0
                addLot 0 10 30 = 1
                setReserve 0 25 = 20
                setReserve 0 25 = 25
                count 12 = 4
                setReserve 1 0 = 30
                setReserve 1 1000000 = 0
                setReserve 1 1000001 = BAD_VALUE
                setReserve 1 -1 = BAD_VALUE
                setReserve 2 5 = UNKNOWN
                setReserve 2 -5 = UNKNOWN
                setReserve -1 5 = UNKNOWN
                setReserve MOST LEAST = UNKNOWN
                lot 0 2 = 25
                lot 1 2 = 1000000
                lot 1 1 = 10
                undo = 3
                lot 1 2 = 0
                """);
    }

    private static void promise7() {
        Script.run("7: withdrawLot", """
                withdrawLot 0 true = UNKNOWN
                addLot 0 10 20 = 0
                addLot 0 10 20 = 1
                addLot 0 10 20 = 2
                withdrawLot 0 false = NOT_POSSIBLE
                withdrawLot 1 true = 1
                withdrawLot 1 true = NOT_POSSIBLE
                withdrawLot 0 true = 2
                withdrawLot 2 true = 3
                withdrawLot 1 false = 2
                withdrawLot 1 false = NOT_POSSIBLE
                withdrawLot 3 false = UNKNOWN
                withdrawLot -1 true = UNKNOWN
                lot 0 3 = 1
                lot 1 3 = 0
                count 4 = 2
                undo = 3
                lot 1 3 = 1
                count 4 = 3
                """);
    }

    private static void promise8() {
        Script.run("8: addBidder", """
                addBidder -1 = BAD_VALUE
                addBidder 10000001 = BAD_VALUE
                addBidder 0 = 0
                addBidder 10000000 = 1
                bidder 0 0 = 0
                bidder 1 0 = 10000000
                bidder 2 0 = UNKNOWN
                addBidder 7 = 2 ... 7
                addBidder 7 = FULL
                addBidder -7 = BAD_VALUE
                addBidder LEAST = BAD_VALUE
                count 1 = 8
                undo = 3
                count 1 = 7
                addBidder 9 = 7
                bidder 7 0 = 9
                """);
    }

    private static void promise9() {
        Script.run("9: setLimit", """
                setLimit 0 5 = UNKNOWN
                addBidder 5 = 0
                addBidder 6 = 1
                setLimit 0 10000000 = 5
                setLimit 1 0 = 6
                setLimit 1 0 = 0
                count 12 = 4
                setLimit 0 -1 = BAD_VALUE
                setLimit 0 10000001 = BAD_VALUE
                setLimit 2 5 = UNKNOWN
                setLimit 2 -5 = UNKNOWN
                setLimit -1 5 = UNKNOWN
                bidder 0 0 = 10000000
                bidder 1 0 = 0
                undo = 3
                undo = 2
                bidder 1 0 = 6
                """);
    }

    private static void promise10() {
        Script.run("10: set", """
                set 0 0 = 50000
                set 0 100000 = 0
                set 0 100001 = BAD_VALUE
                set 0 -1 = BAD_VALUE
                set 1 0 = 150
                set 1 500 = 0
                set 1 501 = BAD_VALUE
                set 1 -1 = BAD_VALUE
                set 2 0 = 100
                set 2 500 = 0
                set 2 501 = BAD_VALUE
                set 2 -1 = BAD_VALUE
                set 3 0 = 2
                set 3 1000 = 0
                set 3 1001 = BAD_VALUE
                set 3 -1 = BAD_VALUE
                set 4 5 = UNKNOWN
                set -1 5 = UNKNOWN
                set 4 -5 = UNKNOWN
                set MOST MOST = UNKNOWN
                count 8 = 100000
                count 9 = 500
                count 10 = 500
                count 11 = 1000
                undo = 3
                count 11 = 0
                undo = 2
                count 11 = 2
                undo = 1
                count 10 = 0
                """);
    }
}
