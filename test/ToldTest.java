/** Promises 21 to 26: what is told, and the money. */
public final class ToldTest {
    public static void main(String[] args) {
        promise21();
        promise22();
        promise23();
        promise24();
        promise25();
        promise26();
        Script.end("ToldTest");
    }

    private static void promise21() {
        Script.run("21: lot", """
                lot 0 0 = UNKNOWN
                addLot 3 12 0 = 0
                addLot 4 12 33 = 1
                addLot 0 1000000 5 = 2
                addBidder 100 = 0
                lot 0 0 = 3
                lot 0 1 = 12
                lot 0 2 = 0
                lot 0 3 = 0
                lot 0 4 = 15
                lot 0 5 = 0
                lot 1 0 = 4
                lot 1 2 = 33
                lot 1 4 = 35
                lot 2 4 = 1000000
                lot 3 0 = UNKNOWN
                lot -1 0 = UNKNOWN
                lot 3 6 = UNKNOWN
                lot 0 6 = BAD_VALUE
                lot 0 -1 = BAD_VALUE
                bid 0 0 50 5 0 = 0
                bid 0 0 50 99999 0 = 1
                bid 0 0 1 5 0 = 2
                bid 0 1 1 5 0 = 3
                withdrawBid 2 = 0
                lot 0 5 = 3
                lot 1 5 = 1
                lot 2 5 = 0
                withdrawLot 0 true = 1
                lot 0 3 = 1
                lot 1 3 = 0
                lot 0 5 = 3
                lot 0 4 = 15
                setBand 13 7 = 2
                lot 0 4 = 13
                lot 1 4 = 34
                lot 2 4 = 1000005
                setBand 0 7 = 2
                lot 0 4 = 13
                """);
        Script.run("21: the greatest asking price", """
                addLot 0 1000000 0 = 0
                setBand 999999 100000 = 2
                lot 0 4 = 1099999
                """);
    }

    private static void promise22() {
        Script.run("22: bidOf", """
                bidOf 0 0 = UNKNOWN
                addLot 0 10 0 = 0
                addLot 0 10 0 = 1
                addBidder 100 = 0
                addBidder 33 = 1
                bid 1 1 43 7 9 = 0
                bidOf 0 0 = 1
                bidOf 0 1 = 1
                bidOf 0 2 = 43
                bidOf 0 3 = 7
                bidOf 0 4 = 9
                bidOf 0 5 = 0
                bidOf 0 6 = 30
                bidOf 0 7 = BAD_VALUE
                bidOf 0 -1 = BAD_VALUE
                bidOf 1 0 = UNKNOWN
                bidOf 1 7 = UNKNOWN
                bidOf -1 0 = UNKNOWN
                bid 1 0 22 50001 0 = 1
                bidOf 1 6 = 20
                bid 1 0 14 5 9 = 2
                bidOf 2 6 = 10
                bidOf 0 6 = 20
                bidOf 1 6 = 20
                withdrawLot 1 true = 1
                bidOf 0 6 = 20
                withdrawLot 0 true = 2
                bidOf 0 6 = 30
                bidOf 2 6 = 10
                withdrawLot 0 false = 1
                withdrawBid 0 = 1
                bidOf 0 5 = 1
                bidOf 0 6 = 20
                setLimit 1 4 = 33
                bidOf 0 6 = 0
                bidOf 1 6 = 0
                bidOf 2 6 = 0
                setBand 3 1 = 2
                bidOf 1 6 = 4
                """);
    }

    private static void promise23() {
        Script.run("23: bidder", """
                bidder 0 0 = UNKNOWN
                addLot 0 13 0 = 0
                addLot 0 13 0 = 1
                addLot 0 13 0 = 2
                addBidder 100 = 0
                addBidder 1000 = 1
                bidder 0 1 = 100
                bidder 0 2 = 0
                bidder 0 3 = 0
                bid 0 0 20 5 0 = 0
                bidder 0 0 = 100
                bidder 0 1 = 85
                bidder 0 2 = 1
                bidder 0 3 = 17
                bid 0 1 20 5 0 = 1
                bid 0 2 20 5 0 = 2
                bidder 0 1 = 55
                bidder 0 2 = 3
                bidder 0 3 = 51
                set 1 99 = 150
                bidder 0 3 = 48
                bid 1 1 90 5 0 = 3
                bidder 0 1 = 70
                bidder 0 2 = 2
                bidder 1 0 = 1000
                bidder 1 1 = 975
                bidder 1 2 = 1
                bidder 1 3 = 27
                bidder 0 4 = BAD_VALUE
                bidder 0 -1 = BAD_VALUE
                bidder 2 0 = UNKNOWN
                bidder 2 4 = UNKNOWN
                bidder -1 0 = UNKNOWN
                set 1 0 = 99
                bidder 1 3 = 25
                set 1 500 = 0
                bidder 1 3 = 37
                """);
        Script.run("23: great prices", """
                addLot 0 1000000 0 = 0 ... 9
                addBidder 10000000 = 0
                say 0=1000000,1=1000000,2=1000000,3=1000000,4=1000000,5=1000000,6=1000000
                letter 0 5 = 7
                say 7=1000000,8=1000000,9=1000000
                letter 0 5 = 3
                set 1 500 = 150
                bidder 0 1 = 0
                bidder 0 2 = 10
                bidder 0 3 = 15000000
                account 4 = 15000000
                account 2 = 1000000
                """);
    }

    private static void promise24() {
        Script.run("24: seller", """
                addLot 1 13 0 = 0
                addLot 1 13 0 = 1
                addLot 1 13 50 = 2
                addLot 2 13 0 = 3
                addLot 1 13 0 = 4
                addLot 1 13 0 = 5
                addBidder 100 = 0
                addBidder 1000 = 1
                bid 0 0 20 5 0 = 0
                bid 0 1 20 5 0 = 1
                bid 1 1 30 5 0 = 2
                bid 0 2 20 5 0 = 3
                bid 0 5 20 5 0 = 4
                withdrawLot 5 true = 1
                seller 1 0 = 5
                seller 1 1 = 2
                seller 1 2 = 40
                seller 1 3 = 33
                seller 2 0 = 1
                seller 2 1 = 0
                seller 2 2 = 0
                seller 2 3 = -2
                seller 0 0 = 0
                seller 0 3 = 0
                seller 5 0 = NO_VALUE
                seller -1 0 = NO_VALUE
                seller 1 4 = NO_VALUE
                seller 1 -1 = NO_VALUE
                seller MOST LEAST = NO_VALUE
                set 2 79 = 100
                seller 1 3 = 34
                set 2 0 = 79
                seller 1 3 = 36
                set 3 1000 = 2
                seller 1 3 = -1960
                seller 2 3 = -1000
                set 2 500 = 0
                seller 1 3 = -1979
                withdrawLot 3 true = 2
                seller 2 0 = 1
                seller 2 3 = 0
                """);
    }

    private static void promise25() {
        Script.run("25: account", """
                addLot 1 13 0 = 0
                addLot 2 13 0 = 1
                addLot 3 13 50 = 2
                addLot 4 13 0 = 3
                addLot 0 13 0 = 4
                addBidder 100 = 0
                addBidder 1000 = 1
                bid 0 0 20 5 0 = 0
                bid 0 1 20 5 0 = 1
                bid 1 1 30 5 0 = 2
                bid 0 2 20 5 0 = 3
                bid 0 4 20 5 0 = 4
                withdrawLot 4 true = 1
                account 0 = 40
                account 1 = 5
                account 2 = 3
                account 3 = 4
                account 4 = 45
                account 5 = 33
                account 6 = 12
                account 7 = NO_VALUE
                account -1 = NO_VALUE
                account MOST = NO_VALUE
                set 3 0 = 2
                account 3 = 0
                account 5 = 37
                account 6 = 8
                set 3 1000 = 0
                account 5 = -1963
                account 6 = 2008
                undo = 3
                account 6 = 8
                """);
    }

    private static void promise26() {
        Script.run("26: count", """
                addLot 1 10 0 = 0
                addLot 2 10 0 = 1
                addLot 3 10 0 = 2
                addBidder 100 = 0
                addBidder 100 = 1
                bid 0 0 20 50000 0 = 0
                bid 0 1 20 50001 0 = 1
                bid 0 2 20 100000 0 = 2
                bid 0 2 20 0 0 = 3
                count 0 = 3
                count 1 = 2
                count 2 = 4
                count 3 = 2
                count 4 = 0
                count 5 = 2
                count 6 = 0
                count 7 = 1
                count 12 = 4
                count 13 = 0
                withdrawBid 2 = 2
                count 5 = 2
                count 6 = 1
                withdrawLot 2 true = 1
                count 3 = 1
                count 4 = 1
                set 0 0 = 50000
                count 8 = 0
                count 5 = 3
                count 3 = 0
                set 0 70000 = 0
                count 8 = 70000
                count 5 = 1
                count 3 = 2
                set 1 1 = 150
                set 2 2 = 100
                set 3 3 = 2
                count 9 = 1
                count 10 = 2
                count 11 = 3
                setBand 9 9 = 2
                count 7 = 2
                say 12
                count 13 = 2
                count 14 = BAD_VALUE
                count -1 = BAD_VALUE
                count MOST = BAD_VALUE
                count LEAST = BAD_VALUE
                """);
    }
}
